/-! ===== the class reads tokens: tables, contracts, paths ===== -/
def xSC : List Nat := [3, 1, 2, 4, 64, 65, 66, 67, 68, 69, 70, 71, 72, 73, 74, 75, 18, 19, 20, 21, 22, 23, 24, 0, 31, 33, 34, 76, 77, 78, 79, 5, 6, 7, 8, 9, 35]
def xRF : List (Nat × Nat × Nat) := [(3, 0, 1), (1, 0, 2), (4, 0, 3), (64, 1, 65), (64, 2, 66), (64, 3, 72), (64, 4, 75), (66, 1, 67), (66, 2, 68), (66, 3, 69), (66, 4, 70), (66, 5, 71), (72, 0, 73), (72, 1, 74), (18, 1, 19), (18, 6, 20), (18, 7, 21), (18, 8, 22), (18, 9, 23), (18, 10, 24), (0, 0, 1), (0, 1, 3), (0, 2, 4), (18, 37, 31), (18, 44, 33), (18, 45, 34), (76, 0, 77), (76, 1, 78), (76, 2, 79), (5, 0, 6), (5, 1, 7), (5, 2, 8), (5, 3, 9), (18, 46, 35)]
def xi_X7_isBlank : List (Nat × Nat × Instr) := [(0, 1, .iload_n 0), (1, 2, .bipush 32), (3, 3, .if_icmp .eq 9), (6, 1, .iload_n 0), (7, 2, .bipush 10), (9, 3, .if_icmp .ne 7), (12, 1, .iconst 1), (13, 3, .goto 4), (16, 1, .iconst 0), (17, 1, .ireturn)]
def xg_X7_isBlank : zf_ft := []
def xp_X7_isBlank : zf_ft := []
def xv_X7_isBlank : List (Nat × Nat × xe_F) := []
def xt_X7_isBlank : List (Nat × Nat × xe_F) := []
abbrev xr_X7_isBlank := xe_run xGT xSC xRF 1 xg_X7_isBlank xp_X7_isBlank [] [] xv_X7_isBlank xt_X7_isBlank xi_X7_isBlank
def fx_X7_isBlank : xe_F := fun us hp v hp' => (us.map fun v => v.category).sum ≤ 1 ∧ xe_rt (some .boolean) v ∧ True ∧ ∃ n, xr_X7_isBlank n (0, xe_ag 0 us.reverse, [], hp) v hp'
theorem mk_X7_isBlank {a0 : Int32} {hp hp' : xe_H} {v : Option Value} (hr : xe_rt (some .boolean) v) (h : ∃ n, xr_X7_isBlank n (0, [(0, .int a0)], [], hp) v hp') : fx_X7_isBlank [.int a0] hp v hp' := ⟨Nat.le_of_ble_eq_true rfl, hr, trivial, h⟩
theorem hx_X7_isBlank : ∀ us hp v hp', fx_X7_isBlank us hp v hp' → (us.map fun v => v.category).sum ≤ 1 ∧ xe_rt (some .boolean) v ∧ ∃ n, xr_X7_isBlank n (0, xe_ag 0 us.reverse, [], hp) v hp' := fun us hp v hp' h => ⟨h.1, h.2.1, h.2.2.2⟩
set_option maxRecDepth 100000 in
set_option maxHeartbeats 4000000 in
theorem kx_X7_isBlank (l : Launch) (D : va_G) (k : Nat → ClassId) (B0 : Nat) (ad : Nat → Nat) (al sw : Nat) : xe_Con l yX7_isBlank (zw yX7_isBlank cX7_isBlank 1 (some .boolean)) ({ frames := 0, cells := 0, slots := 0, locals := 0 }) D k ad (zEx B0 ad al sw) xGT xSC xRF fx_X7_isBlank := by
  have hEx := zEx_ok B0 ad al sw
  refine xe_mk (cc := cX7_isBlank) (nL := 1) (ret := (some .boolean)) (fg := xg_X7_isBlank) (fp := xp_X7_isBlank) (sg := []) (lc := []) (cv := xv_X7_isBlank) (cs := xt_X7_isBlank) (ins := xi_X7_isBlank) (by decide) rfl hEx (by decide +kernel) hx_X7_isBlank ?_
  intro p e s m args below meth c Q Sg w0 A θ S hK hE hAB hA hth
  refine ⟨?_, ?_, ?_, ?_, ?_, ?_⟩
  · exact zf_an
  · exact zf_an
  · exact xe_n2
  · exact xe_n3
  · exact xe_n4
  · exact xe_n4
set_option maxRecDepth 100000 in
theorem pt_X7_isBlank_0 {a0 : Int32} {I : Nat → Nat → Int32} {L : Nat → Nat → Int64} (h1 : (xe_cmp .eq a0 (32 : Int32)) = true) : ∃ n, xr_X7_isBlank n (0, [(0, .int a0)], [], (I, L)) (some (.int (1 : Int32))) (I, L) := by
  refine xe_bT 2 (A := (12, [(0, .int a0)], [], (I, L))) (B := (6, [(0, .int a0)], [], (I, L))) h1 rfl ?_
  refine xe_go 1 (s' := (17, [(0, .int a0)], [.int (1 : Int32)], (I, L))) rfl ?_
  exact xe_end rfl rfl rfl
set_option maxRecDepth 100000 in
theorem pt_X7_isBlank_1 {a0 : Int32} {I : Nat → Nat → Int32} {L : Nat → Nat → Int64} (h1 : (xe_cmp .eq a0 (32 : Int32)) = false) (h2 : (xe_cmp .ne a0 (10 : Int32)) = true) : ∃ n, xr_X7_isBlank n (0, [(0, .int a0)], [], (I, L)) (some (.int (0 : Int32))) (I, L) := by
  refine xe_bF 2 (A := (12, [(0, .int a0)], [], (I, L))) (B := (6, [(0, .int a0)], [], (I, L))) h1 rfl ?_
  refine xe_bT 2 (A := (16, [(0, .int a0)], [], (I, L))) (B := (12, [(0, .int a0)], [], (I, L))) h2 rfl ?_
  refine xe_go 0 (s' := (17, [(0, .int a0)], [.int (0 : Int32)], (I, L))) rfl ?_
  exact xe_end rfl rfl rfl
set_option maxRecDepth 100000 in
theorem pt_X7_isBlank_2 {a0 : Int32} {I : Nat → Nat → Int32} {L : Nat → Nat → Int64} (h1 : (xe_cmp .eq a0 (32 : Int32)) = false) (h2 : (xe_cmp .ne a0 (10 : Int32)) = false) : ∃ n, xr_X7_isBlank n (0, [(0, .int a0)], [], (I, L)) (some (.int (1 : Int32))) (I, L) := by
  refine xe_bF 2 (A := (12, [(0, .int a0)], [], (I, L))) (B := (6, [(0, .int a0)], [], (I, L))) h1 rfl ?_
  refine xe_bF 2 (A := (16, [(0, .int a0)], [], (I, L))) (B := (12, [(0, .int a0)], [], (I, L))) h2 rfl ?_
  refine xe_go 1 (s' := (17, [(0, .int a0)], [.int (1 : Int32)], (I, L))) rfl ?_
  exact xe_end rfl rfl rfl
def xi_X7_fail : List (Nat × Nat × Instr) := [(0, 1, .aload_n 0), (1, 1, .iload_n 1), (2, 3, .putfield 22), (5, 1, .aload_n 0), (6, 1, .aload_n 0), (7, 3, .getfield 44), (10, 3, .putfield 25), (13, 1, .iconst 0), (14, 1, .ireturn)]
def xg_X7_fail : zf_ft := [(44, 5, 2, .inl (0, 0))]
def xp_X7_fail : zf_ft := [(22, 5, 9, .inl ((-2147483648), 2147483647)), (25, 5, 10, .inl ((-2147483648), 2147483647))]
def xv_X7_fail : List (Nat × Nat × xe_F) := []
def xt_X7_fail : List (Nat × Nat × xe_F) := []
abbrev xr_X7_fail := xe_run xGT xSC xRF 2 xg_X7_fail xp_X7_fail [] [] xv_X7_fail xt_X7_fail xi_X7_fail
def fx_X7_fail : xe_F := fun us hp v hp' => (us.map fun v => v.category).sum ≤ 2 ∧ xe_rt (some .boolean) v ∧ (∃ ar, us = ar ++ [.ref 3]) ∧ ∃ n, xr_X7_fail n (0, xe_ag 0 us.reverse, [], hp) v hp'
theorem mk_X7_fail {a1 : Int32} {hp hp' : xe_H} {v : Option Value} (hr : xe_rt (some .boolean) v) (h : ∃ n, xr_X7_fail n (0, [(0, .ref 3), (1, .int a1)], [], hp) v hp') : fx_X7_fail [.int a1, .ref 3] hp v hp' := ⟨Nat.le_of_ble_eq_true rfl, hr, ⟨[.int a1], rfl⟩, h⟩
theorem hx_X7_fail : ∀ us hp v hp', fx_X7_fail us hp v hp' → (us.map fun v => v.category).sum ≤ 2 ∧ xe_rt (some .boolean) v ∧ ∃ n, xr_X7_fail n (0, xe_ag 0 us.reverse, [], hp) v hp' := fun us hp v hp' h => ⟨h.1, h.2.1, h.2.2.2⟩
theorem fr_X7_fail : ∀ us hp v hp', fx_X7_fail us hp v hp' → ∃ ar, us = ar ++ [.ref 3] := fun us hp v hp' h => h.2.2.1
set_option maxRecDepth 100000 in
set_option maxHeartbeats 4000000 in
theorem kx_X7_fail (l : Launch) (D : va_G) (k : Nat → ClassId) (B0 : Nat) (ad : Nat → Nat) (al sw : Nat) : xe_Con l yX7_fail (zw yX7_fail cX7_fail 2 (some .boolean)) ({ frames := 0, cells := 0, slots := 0, locals := 0 }) D k ad (zEx B0 ad al sw) xGT xSC xRF fx_X7_fail := by
  have hEx := zEx_ok B0 ad al sw
  refine xe_mk (cc := cX7_fail) (nL := 2) (ret := (some .boolean)) (fg := xg_X7_fail) (fp := xp_X7_fail) (sg := []) (lc := []) (cv := xv_X7_fail) (cs := xt_X7_fail) (ins := xi_X7_fail) (by decide) rfl hEx (by decide +kernel) hx_X7_fail ?_
  intro p e s m args below meth c Q Sg w0 A θ S hK hE hAB hA hth
  refine ⟨?_, ?_, ?_, ?_, ?_, ?_⟩
  · exact zf_ac ((fun H locs ws a q0 fs v rest pc ls hP he hv hdg kk => va_get (D := D) (ci := 5) (C := RX7) (T := TX7) (N := 11) (own := RX7) S.1 S.2.1 S.2.2.2.2 (zg_in inW_X7) S.2.2.2.1 hK hP q0 he rfl 2 (by decide) (S.2.2.2.2 (.fieldLink RX7 44 "RungMoney$Reader" "at" "I") (List.mem_cons_of_mem _ zw_152)) (fun _ h9 => h9) hv hdg kk)) zf_an
  · exact zf_ac ((fun H locs ws a q0 fs v rest pc ls hP hD hS he hl hv hdg kk => by obtain ⟨x, rfl, h1, h2⟩ := hv; exact va_put (D := D) (ci := 5) (v := .int x) (ty := .int) (C := RX7) (T := TX7) (N := 11) (own := RX7) S.1 S.2.1 S.2.2.2.2 (zg_in inW_X7) tyX7 tyX7_ok nmX7 S.2.2.2.1 hK hP hD hS q0 he rfl 9 (by decide) (S.2.2.2.2 (.fieldLink RX7 22 "RungMoney$Reader" "fault" "I") (List.mem_cons_of_mem _ zw_166)) (fun _ h9 => h9) rfl (by decide +kernel) rfl rfl hl hdg kk)) (zf_ac ((fun H locs ws a q0 fs v rest pc ls hP hD hS he hl hv hdg kk => by obtain ⟨x, rfl, h1, h2⟩ := hv; exact va_put (D := D) (ci := 5) (v := .int x) (ty := .int) (C := RX7) (T := TX7) (N := 11) (own := RX7) S.1 S.2.1 S.2.2.2.2 (zg_in inW_X7) tyX7 tyX7_ok nmX7 S.2.2.2.1 hK hP hD hS q0 he rfl 10 (by decide) (S.2.2.2.2 (.fieldLink RX7 25 "RungMoney$Reader" "place" "I") (List.mem_cons_of_mem _ zw_168)) (fun _ h9 => h9) rfl (by decide +kernel) rfl rfl hl hdg kk)) zf_an)
  · exact xe_n2
  · exact xe_n3
  · exact xe_n4
  · exact xe_n4
set_option maxRecDepth 100000 in
theorem pt_X7_fail_0 {a1 : Int32} {I : Nat → Nat → Int32} {L : Nat → Nat → Int64}  : ∃ n, xr_X7_fail n (0, [(0, .ref 3), (1, .int a1)], [], (I, L)) (some (.int (0 : Int32))) ((xu (xu I 3 9 a1) 3 10 (I 3 2)), L) := by
  refine xe_go 7 (s' := (14, [(0, .ref 3), (1, .int a1)], [.int (0 : Int32)], ((xu (xu I 3 9 a1) 3 10 (I 3 2)), L))) rfl ?_
  exact xe_end rfl rfl rfl
def xi_X7_readRun : List (Nat × Nat × Instr) := [(0, 1, .iconst 0), (1, 1, .istore_n 1), (2, 1, .iconst 0), (3, 1, .istore_n 2), (4, 1, .iconst 1), (5, 1, .istore_n 3), (6, 1, .iload_n 3), (7, 3, .ifCond .eq 134), (10, 1, .aload_n 0), (11, 3, .getfield 19), (14, 1, .aload_n 0), (15, 3, .getfield 9), (18, 3, .getfield 31), (21, 3, .if_icmp .ge 120), (24, 1, .aload_n 0), (25, 3, .getfield 9), (28, 3, .getfield 36), (31, 1, .aload_n 0), (32, 3, .getfield 19), (35, 1, .iaload), (36, 2, .istore 4), (38, 2, .iload 4), (40, 2, .bipush 97), (42, 3, .if_icmp .lt 47), (45, 2, .iload 4), (47, 2, .bipush 122), (49, 3, .if_icmp .gt 40), (52, 1, .aload_n 0), (53, 1, .aload_n 0), (54, 3, .getfield 47), (57, 3, .ldc2_w 63), (60, 1, .lmul), (61, 2, .iload 4), (63, 2, .bipush 97), (65, 1, .isub), (66, 1, .iconst 1), (67, 1, .iadd), (68, 1, .i2l), (69, 1, .ladd), (70, 3, .putfield 47), (73, 3, .iinc 1 1), (76, 1, .aload_n 0), (77, 1, .dup), (78, 3, .getfield 19), (81, 1, .iconst 1), (82, 1, .iadd), (83, 3, .putfield 19), (86, 3, .goto 52), (89, 2, .iload 4), (91, 2, .bipush 48), (93, 3, .if_icmp .lt 43), (96, 2, .iload 4), (98, 2, .bipush 57), (100, 3, .if_icmp .gt 36), (103, 1, .aload_n 0), (104, 1, .aload_n 0), (105, 3, .getfield 51), (108, 2, .bipush 10), (110, 1, .imul), (111, 2, .iload 4), (113, 2, .bipush 48), (115, 1, .isub), (116, 1, .iadd), (117, 3, .putfield 51), (120, 3, .iinc 2 1), (123, 1, .aload_n 0), (124, 1, .dup), (125, 3, .getfield 19), (128, 1, .iconst 1), (129, 1, .iadd), (130, 3, .putfield 19), (133, 3, .goto 5), (136, 1, .iconst 0), (137, 1, .istore_n 3), (138, 3, .goto (-132)), (141, 1, .iload_n 2), (142, 3, .ifCond .ne 17), (145, 1, .iload_n 1), (146, 2, .bipush 12), (148, 3, .if_icmp .gt 11), (151, 1, .aload_n 0), (152, 1, .iconst 1), (153, 3, .putfield 57), (156, 3, .goto 30), (159, 1, .iload_n 1), (160, 3, .ifCond .ne 16), (163, 1, .iload_n 2), (164, 1, .iconst 3), (165, 3, .if_icmp .gt 11), (168, 1, .aload_n 0), (169, 1, .iconst 2), (170, 3, .putfield 57), (173, 3, .goto 13), (176, 1, .aload_n 0), (177, 1, .iconst 4), (178, 3, .putfield 57), (181, 1, .aload_n 0), (182, 1, .lconst 0), (183, 3, .putfield 47), (186, 1, .return_)]
def xg_X7_readRun : zf_ft := [(19, 5, 3, .inl (0, 0)), (9, 5, 0, .inl (0, 0)), (31, 7, 1, .inl (0, 0)), (36, 7, 0, .inl (0, 0)), (47, 5, 5, .inl (0, 0)), (51, 5, 6, .inl (0, 0))]
def xp_X7_readRun : zf_ft := [(47, 5, 5, .inr none), (19, 5, 3, .inl ((-2147483648), 2147483647)), (51, 5, 6, .inl ((-2147483648), 2147483647)), (57, 5, 4, .inl ((-2147483648), 2147483647))]
def xv_X7_readRun : List (Nat × Nat × xe_F) := []
def xt_X7_readRun : List (Nat × Nat × xe_F) := []
abbrev xr_X7_readRun := xe_run xGT xSC xRF 5 xg_X7_readRun xp_X7_readRun [] [(63, 32)] xv_X7_readRun xt_X7_readRun xi_X7_readRun
def fx_X7_readRun : xe_F := fun us hp v hp' => (us.map fun v => v.category).sum ≤ 5 ∧ xe_rt none v ∧ (∃ ar, us = ar ++ [.ref 3]) ∧ ∃ n, xr_X7_readRun n (0, xe_ag 0 us.reverse, [], hp) v hp'
theorem mk_X7_readRun  {hp hp' : xe_H} {v : Option Value} (hr : xe_rt none v) (h : ∃ n, xr_X7_readRun n (0, [(0, .ref 3)], [], hp) v hp') : fx_X7_readRun [.ref 3] hp v hp' := ⟨Nat.le_of_ble_eq_true rfl, hr, ⟨[], rfl⟩, h⟩
theorem hx_X7_readRun : ∀ us hp v hp', fx_X7_readRun us hp v hp' → (us.map fun v => v.category).sum ≤ 5 ∧ xe_rt none v ∧ ∃ n, xr_X7_readRun n (0, xe_ag 0 us.reverse, [], hp) v hp' := fun us hp v hp' h => ⟨h.1, h.2.1, h.2.2.2⟩
theorem fr_X7_readRun : ∀ us hp v hp', fx_X7_readRun us hp v hp' → ∃ ar, us = ar ++ [.ref 3] := fun us hp v hp' h => h.2.2.1
set_option maxRecDepth 100000 in
set_option maxHeartbeats 4000000 in
theorem kx_X7_readRun (l : Launch) (D : va_G) (k : Nat → ClassId) (B0 : Nat) (ad : Nat → Nat) (al sw : Nat) : xe_Con l yX7_readRun (zw yX7_readRun cX7_readRun 5 none) ({ frames := 0, cells := 0, slots := 0, locals := 0 }) D k ad (zEx B0 ad al sw) xGT xSC xRF fx_X7_readRun := by
  have hEx := zEx_ok B0 ad al sw
  refine xe_mk (cc := cX7_readRun) (nL := 5) (ret := none) (fg := xg_X7_readRun) (fp := xp_X7_readRun) (sg := []) (lc := [(63, 32)]) (cv := xv_X7_readRun) (cs := xt_X7_readRun) (ins := xi_X7_readRun) (by decide) rfl hEx (by decide +kernel) hx_X7_readRun ?_
  intro p e s m args below meth c Q Sg w0 A θ S hK hE hAB hA hth
  refine ⟨?_, ?_, ?_, ?_, ?_, ?_⟩
  · exact zf_ac ((fun H locs ws a q0 fs v rest pc ls hP he hv hdg kk => va_get (D := D) (ci := 5) (C := RX7) (T := TX7) (N := 11) (own := RX7) S.1 S.2.1 S.2.2.2.2 (zg_in inW_X7) S.2.2.2.1 hK hP q0 he rfl 3 (by decide) (S.2.2.2.2 (.fieldLink RX7 19 "RungMoney$Reader" "next" "I") (List.mem_cons_of_mem _ zw_153)) (fun _ h9 => h9) hv hdg kk)) (zf_ac ((fun H locs ws a q0 fs v rest pc ls hP he hv hdg kk => va_get (D := D) (ci := 5) (C := RX7) (T := TX7) (N := 11) (own := RX7) S.1 S.2.1 S.2.2.2.2 (zg_in inW_X7) S.2.2.2.1 hK hP q0 he rfl 0 (by decide) (S.2.2.2.2 (.fieldLink RX7 9 "RungMoney$Reader" "tape" "LRungMoney$Tape;") (List.mem_cons_of_mem _ zw_150)) (fun _ h9 => h9) hv hdg kk)) (zf_ac ((fun H locs ws a q0 fs v rest pc ls hP he hv hdg kk => va_get (D := D) (ci := 7) (C := RX9) (T := TX9) (N := 2) (own := RX7) S.1 S.2.1 S.2.2.2.2 (zg_in inW_X9) S.2.2.2.1 hK hP q0 he rfl 1 (by decide) (S.2.2.2.2 (.fieldLink RX7 31 "RungMoney$Tape" "size" "I") (List.mem_cons_of_mem _ zw_137)) (fun _ h9 => h9) hv hdg kk)) (zf_ac ((fun H locs ws a q0 fs v rest pc ls hP he hv hdg kk => va_get (D := D) (ci := 7) (C := RX9) (T := TX9) (N := 2) (own := RX7) S.1 S.2.1 S.2.2.2.2 (zg_in inW_X9) S.2.2.2.1 hK hP q0 he rfl 0 (by decide) (S.2.2.2.2 (.fieldLink RX7 36 "RungMoney$Tape" "bytes" "[I") (List.mem_cons_of_mem _ zw_133)) (fun _ h9 => h9) hv hdg kk)) (zf_ac ((fun H locs ws a q0 fs v rest pc ls hP he hv hdg kk => va_get (D := D) (ci := 5) (C := RX7) (T := TX7) (N := 11) (own := RX7) S.1 S.2.1 S.2.2.2.2 (zg_in inW_X7) S.2.2.2.1 hK hP q0 he rfl 5 (by decide) (S.2.2.2.2 (.fieldLink RX7 47 "RungMoney$Reader" "word" "J") (List.mem_cons_of_mem _ zw_158)) (fun _ h9 => h9) hv hdg kk)) (zf_ac ((fun H locs ws a q0 fs v rest pc ls hP he hv hdg kk => va_get (D := D) (ci := 5) (C := RX7) (T := TX7) (N := 11) (own := RX7) S.1 S.2.1 S.2.2.2.2 (zg_in inW_X7) S.2.2.2.1 hK hP q0 he rfl 6 (by decide) (S.2.2.2.2 (.fieldLink RX7 51 "RungMoney$Reader" "number" "I") (List.mem_cons_of_mem _ zw_160)) (fun _ h9 => h9) hv hdg kk)) zf_an)))))
  · exact zf_ac ((fun H locs ws a q0 fs v rest pc ls hP hD hS he hl hv hdg kk => by obtain ⟨x, rfl⟩ := hv; exact va_put (D := D) (ci := 5) (v := .long x) (ty := .long) (C := RX7) (T := TX7) (N := 11) (own := RX7) S.1 S.2.1 S.2.2.2.2 (zg_in inW_X7) tyX7 tyX7_ok nmX7 S.2.2.2.1 hK hP hD hS q0 he rfl 5 (by decide) (S.2.2.2.2 (.fieldLink RX7 47 "RungMoney$Reader" "word" "J") (List.mem_cons_of_mem _ zw_158)) (fun _ h9 => h9) rfl (by decide +kernel) rfl rfl hl hdg kk)) (zf_ac ((fun H locs ws a q0 fs v rest pc ls hP hD hS he hl hv hdg kk => by obtain ⟨x, rfl, h1, h2⟩ := hv; exact va_put (D := D) (ci := 5) (v := .int x) (ty := .int) (C := RX7) (T := TX7) (N := 11) (own := RX7) S.1 S.2.1 S.2.2.2.2 (zg_in inW_X7) tyX7 tyX7_ok nmX7 S.2.2.2.1 hK hP hD hS q0 he rfl 3 (by decide) (S.2.2.2.2 (.fieldLink RX7 19 "RungMoney$Reader" "next" "I") (List.mem_cons_of_mem _ zw_153)) (fun _ h9 => h9) rfl (by decide +kernel) rfl rfl hl hdg kk)) (zf_ac ((fun H locs ws a q0 fs v rest pc ls hP hD hS he hl hv hdg kk => by obtain ⟨x, rfl, h1, h2⟩ := hv; exact va_put (D := D) (ci := 5) (v := .int x) (ty := .int) (C := RX7) (T := TX7) (N := 11) (own := RX7) S.1 S.2.1 S.2.2.2.2 (zg_in inW_X7) tyX7 tyX7_ok nmX7 S.2.2.2.1 hK hP hD hS q0 he rfl 6 (by decide) (S.2.2.2.2 (.fieldLink RX7 51 "RungMoney$Reader" "number" "I") (List.mem_cons_of_mem _ zw_160)) (fun _ h9 => h9) rfl (by decide +kernel) rfl rfl hl hdg kk)) (zf_ac ((fun H locs ws a q0 fs v rest pc ls hP hD hS he hl hv hdg kk => by obtain ⟨x, rfl, h1, h2⟩ := hv; exact va_put (D := D) (ci := 5) (v := .int x) (ty := .int) (C := RX7) (T := TX7) (N := 11) (own := RX7) S.1 S.2.1 S.2.2.2.2 (zg_in inW_X7) tyX7 tyX7_ok nmX7 S.2.2.2.1 hK hP hD hS q0 he rfl 4 (by decide) (S.2.2.2.2 (.fieldLink RX7 57 "RungMoney$Reader" "kind" "I") (List.mem_cons_of_mem _ zw_156)) (fun _ h9 => h9) rfl (by decide +kernel) rfl rfl hl hdg kk)) zf_an)))
  · exact xe_n2
  · exact xe_a3 ((fun H locs rest pc ls hdg kk => lv_ldc2 S.1 S.2.1 S.2.2.2.1 (S.2.2.2.2 (.constantLong RX7 63 32) (List.mem_cons_of_mem _ zw_504)) hdg kk)) xe_n3
  · exact xe_n4
  · exact xe_n4
set_option maxRecDepth 100000 in
theorem pt_X7_readRun_0 {I : Nat → Nat → Int32} {L : Nat → Nat → Int64} {v9 : Option Value} {hp9 : xe_H} (r9 : ∃ n, xr_X7_readRun n (6, [(0, .ref 3), (1, .int (0 : Int32)), (2, .int (0 : Int32)), (3, .int (1 : Int32))], [], (I, L)) v9 hp9) : ∃ n, xr_X7_readRun n (0, [(0, .ref 3)], [], (I, L)) v9 hp9 := by
  refine xe_go 5 (s' := (6, [(0, .ref 3), (1, .int (0 : Int32)), (2, .int (0 : Int32)), (3, .int (1 : Int32))], [], (I, L))) rfl ?_
  exact xe_nrm [0, 1, 2, 3] rfl r9
set_option maxRecDepth 100000 in
theorem pt_X7_readRun_1 {l1 l2 l3 : Int32} {I : Nat → Nat → Int32} {L : Nat → Nat → Int64} (h1 : (xe_cmp .eq l3 0) = true) {v9 : Option Value} {hp9 : xe_H} (r9 : ∃ n, xr_X7_readRun n (141, [(0, .ref 3), (1, .int l1), (2, .int l2), (3, .int l3)], [], (I, L)) v9 hp9) : ∃ n, xr_X7_readRun n (6, [(0, .ref 3), (1, .int l1), (2, .int l2), (3, .int l3)], [], (I, L)) v9 hp9 := by
  refine xe_bT 1 (A := (141, [(0, .ref 3), (1, .int l1), (2, .int l2), (3, .int l3)], [], (I, L))) (B := (10, [(0, .ref 3), (1, .int l1), (2, .int l2), (3, .int l3)], [], (I, L))) h1 rfl ?_
  exact xe_nrm [0, 1, 2, 3] rfl r9
set_option maxRecDepth 100000 in
theorem pt_X7_readRun_2 {l1 l2 l3 : Int32} {I : Nat → Nat → Int32} {L : Nat → Nat → Int64} (h1 : (xe_cmp .eq l3 0) = false) (h2 : (xe_cmp .ge (I 3 3) (I 1 1)) = true) {v9 : Option Value} {hp9 : xe_H} (r9 : ∃ n, xr_X7_readRun n (141, [(0, .ref 3), (1, .int l1), (2, .int l2), (3, .int l3)], [], (I, L)) v9 hp9) : ∃ n, xr_X7_readRun n (6, [(0, .ref 3), (1, .int l1), (2, .int l2), (3, .int l3)], [], (I, L)) v9 hp9 := by
  refine xe_bF 1 (A := (141, [(0, .ref 3), (1, .int l1), (2, .int l2), (3, .int l3)], [], (I, L))) (B := (10, [(0, .ref 3), (1, .int l1), (2, .int l2), (3, .int l3)], [], (I, L))) h1 rfl ?_
  refine xe_bT 5 (A := (141, [(0, .ref 3), (1, .int l1), (2, .int l2), (3, .int l3)], [], (I, L))) (B := (24, [(0, .ref 3), (1, .int l1), (2, .int l2), (3, .int l3)], [], (I, L))) h2 rfl ?_
  exact xe_nrm [0, 1, 2, 3] rfl r9
set_option maxRecDepth 100000 in
theorem pt_X7_readRun_3 {l1 l2 l3 : Int32} {I : Nat → Nat → Int32} {L : Nat → Nat → Int64} (h1 : (xe_cmp .eq l3 0) = false) (h2 : (xe_cmp .ge (I 3 3) (I 1 1)) = false) (h3 : xe_ib (I 3 3) 940 = true) (h4 : (xe_cmp .lt (I 2 (((I 3 3)).toInt.toNat)) (97 : Int32)) = true) (h5 : (xe_cmp .lt (I 2 (((I 3 3)).toInt.toNat)) (48 : Int32)) = true) {v9 : Option Value} {hp9 : xe_H} (r9 : ∃ n, xr_X7_readRun n (6, [(0, .ref 3), (1, .int l1), (2, .int l2), (3, .int (0 : Int32))], [], (I, L)) v9 hp9) : ∃ n, xr_X7_readRun n (6, [(0, .ref 3), (1, .int l1), (2, .int l2), (3, .int l3)], [], (I, L)) v9 hp9 := by
  refine xe_bF 1 (A := (141, [(0, .ref 3), (1, .int l1), (2, .int l2), (3, .int l3)], [], (I, L))) (B := (10, [(0, .ref 3), (1, .int l1), (2, .int l2), (3, .int l3)], [], (I, L))) h1 rfl ?_
  refine xe_bF 5 (A := (141, [(0, .ref 3), (1, .int l1), (2, .int l2), (3, .int l3)], [], (I, L))) (B := (24, [(0, .ref 3), (1, .int l1), (2, .int l2), (3, .int l3)], [], (I, L))) h2 rfl ?_
  refine xe_ar 5 (A := (36, [(0, .ref 3), (1, .int l1), (2, .int l2), (3, .int l3)], [.int (I 2 (((I 3 3)).toInt.toNat))], (I, L))) h3 rfl ?_
  refine xe_bT 3 (A := (89, [(0, .ref 3), (1, .int l1), (2, .int l2), (3, .int l3), (4, .int (I 2 (((I 3 3)).toInt.toNat)))], [], (I, L))) (B := (45, [(0, .ref 3), (1, .int l1), (2, .int l2), (3, .int l3), (4, .int (I 2 (((I 3 3)).toInt.toNat)))], [], (I, L))) h4 rfl ?_
  refine xe_bT 2 (A := (136, [(0, .ref 3), (1, .int l1), (2, .int l2), (3, .int l3), (4, .int (I 2 (((I 3 3)).toInt.toNat)))], [], (I, L))) (B := (96, [(0, .ref 3), (1, .int l1), (2, .int l2), (3, .int l3), (4, .int (I 2 (((I 3 3)).toInt.toNat)))], [], (I, L))) h5 rfl ?_
  refine xe_go 2 (s' := (6, [(0, .ref 3), (1, .int l1), (2, .int l2), (3, .int (0 : Int32)), (4, .int (I 2 (((I 3 3)).toInt.toNat)))], [], (I, L))) rfl ?_
  exact xe_nrm [0, 1, 2, 3] rfl r9
set_option maxRecDepth 100000 in
theorem pt_X7_readRun_4 {l1 l2 l3 : Int32} {I : Nat → Nat → Int32} {L : Nat → Nat → Int64} (h1 : (xe_cmp .eq l3 0) = false) (h2 : (xe_cmp .ge (I 3 3) (I 1 1)) = false) (h3 : xe_ib (I 3 3) 940 = true) (h4 : (xe_cmp .lt (I 2 (((I 3 3)).toInt.toNat)) (97 : Int32)) = true) (h5 : (xe_cmp .lt (I 2 (((I 3 3)).toInt.toNat)) (48 : Int32)) = false) (h6 : (xe_cmp .gt (I 2 (((I 3 3)).toInt.toNat)) (57 : Int32)) = true) {v9 : Option Value} {hp9 : xe_H} (r9 : ∃ n, xr_X7_readRun n (6, [(0, .ref 3), (1, .int l1), (2, .int l2), (3, .int (0 : Int32))], [], (I, L)) v9 hp9) : ∃ n, xr_X7_readRun n (6, [(0, .ref 3), (1, .int l1), (2, .int l2), (3, .int l3)], [], (I, L)) v9 hp9 := by
  refine xe_bF 1 (A := (141, [(0, .ref 3), (1, .int l1), (2, .int l2), (3, .int l3)], [], (I, L))) (B := (10, [(0, .ref 3), (1, .int l1), (2, .int l2), (3, .int l3)], [], (I, L))) h1 rfl ?_
  refine xe_bF 5 (A := (141, [(0, .ref 3), (1, .int l1), (2, .int l2), (3, .int l3)], [], (I, L))) (B := (24, [(0, .ref 3), (1, .int l1), (2, .int l2), (3, .int l3)], [], (I, L))) h2 rfl ?_
  refine xe_ar 5 (A := (36, [(0, .ref 3), (1, .int l1), (2, .int l2), (3, .int l3)], [.int (I 2 (((I 3 3)).toInt.toNat))], (I, L))) h3 rfl ?_
  refine xe_bT 3 (A := (89, [(0, .ref 3), (1, .int l1), (2, .int l2), (3, .int l3), (4, .int (I 2 (((I 3 3)).toInt.toNat)))], [], (I, L))) (B := (45, [(0, .ref 3), (1, .int l1), (2, .int l2), (3, .int l3), (4, .int (I 2 (((I 3 3)).toInt.toNat)))], [], (I, L))) h4 rfl ?_
  refine xe_bF 2 (A := (136, [(0, .ref 3), (1, .int l1), (2, .int l2), (3, .int l3), (4, .int (I 2 (((I 3 3)).toInt.toNat)))], [], (I, L))) (B := (96, [(0, .ref 3), (1, .int l1), (2, .int l2), (3, .int l3), (4, .int (I 2 (((I 3 3)).toInt.toNat)))], [], (I, L))) h5 rfl ?_
  refine xe_bT 2 (A := (136, [(0, .ref 3), (1, .int l1), (2, .int l2), (3, .int l3), (4, .int (I 2 (((I 3 3)).toInt.toNat)))], [], (I, L))) (B := (103, [(0, .ref 3), (1, .int l1), (2, .int l2), (3, .int l3), (4, .int (I 2 (((I 3 3)).toInt.toNat)))], [], (I, L))) h6 rfl ?_
  refine xe_go 2 (s' := (6, [(0, .ref 3), (1, .int l1), (2, .int l2), (3, .int (0 : Int32)), (4, .int (I 2 (((I 3 3)).toInt.toNat)))], [], (I, L))) rfl ?_
  exact xe_nrm [0, 1, 2, 3] rfl r9
set_option maxRecDepth 100000 in
theorem pt_X7_readRun_5 {l1 l2 l3 : Int32} {I : Nat → Nat → Int32} {L : Nat → Nat → Int64} (h1 : (xe_cmp .eq l3 0) = false) (h2 : (xe_cmp .ge (I 3 3) (I 1 1)) = false) (h3 : xe_ib (I 3 3) 940 = true) (h4 : (xe_cmp .lt (I 2 (((I 3 3)).toInt.toNat)) (97 : Int32)) = true) (h5 : (xe_cmp .lt (I 2 (((I 3 3)).toInt.toNat)) (48 : Int32)) = false) (h6 : (xe_cmp .gt (I 2 (((I 3 3)).toInt.toNat)) (57 : Int32)) = false) {v9 : Option Value} {hp9 : xe_H} (r9 : ∃ n, xr_X7_readRun n (6, [(0, .ref 3), (1, .int l1), (2, .int (l2 + (1 : Int32))), (3, .int l3)], [], ((xu (xu I 3 6 (((I 3 6) * (10 : Int32)) + ((I 2 (((I 3 3)).toInt.toNat)) - (48 : Int32)))) 3 3 ((I 3 3) + (1 : Int32))), L)) v9 hp9) : ∃ n, xr_X7_readRun n (6, [(0, .ref 3), (1, .int l1), (2, .int l2), (3, .int l3)], [], (I, L)) v9 hp9 := by
  refine xe_bF 1 (A := (141, [(0, .ref 3), (1, .int l1), (2, .int l2), (3, .int l3)], [], (I, L))) (B := (10, [(0, .ref 3), (1, .int l1), (2, .int l2), (3, .int l3)], [], (I, L))) h1 rfl ?_
  refine xe_bF 5 (A := (141, [(0, .ref 3), (1, .int l1), (2, .int l2), (3, .int l3)], [], (I, L))) (B := (24, [(0, .ref 3), (1, .int l1), (2, .int l2), (3, .int l3)], [], (I, L))) h2 rfl ?_
  refine xe_ar 5 (A := (36, [(0, .ref 3), (1, .int l1), (2, .int l2), (3, .int l3)], [.int (I 2 (((I 3 3)).toInt.toNat))], (I, L))) h3 rfl ?_
  refine xe_bT 3 (A := (89, [(0, .ref 3), (1, .int l1), (2, .int l2), (3, .int l3), (4, .int (I 2 (((I 3 3)).toInt.toNat)))], [], (I, L))) (B := (45, [(0, .ref 3), (1, .int l1), (2, .int l2), (3, .int l3), (4, .int (I 2 (((I 3 3)).toInt.toNat)))], [], (I, L))) h4 rfl ?_
  refine xe_bF 2 (A := (136, [(0, .ref 3), (1, .int l1), (2, .int l2), (3, .int l3), (4, .int (I 2 (((I 3 3)).toInt.toNat)))], [], (I, L))) (B := (96, [(0, .ref 3), (1, .int l1), (2, .int l2), (3, .int l3), (4, .int (I 2 (((I 3 3)).toInt.toNat)))], [], (I, L))) h5 rfl ?_
  refine xe_bF 2 (A := (136, [(0, .ref 3), (1, .int l1), (2, .int l2), (3, .int l3), (4, .int (I 2 (((I 3 3)).toInt.toNat)))], [], (I, L))) (B := (103, [(0, .ref 3), (1, .int l1), (2, .int l2), (3, .int l3), (4, .int (I 2 (((I 3 3)).toInt.toNat)))], [], (I, L))) h6 rfl ?_
  refine xe_go 18 (s' := (6, [(0, .ref 3), (1, .int l1), (2, .int (l2 + (1 : Int32))), (3, .int l3), (4, .int (I 2 (((I 3 3)).toInt.toNat)))], [], ((xu (xu I 3 6 (((I 3 6) * (10 : Int32)) + ((I 2 (((I 3 3)).toInt.toNat)) - (48 : Int32)))) 3 3 ((I 3 3) + (1 : Int32))), L))) rfl ?_
  exact xe_nrm [0, 1, 2, 3] rfl r9
set_option maxRecDepth 100000 in
theorem pt_X7_readRun_6 {l1 l2 l3 : Int32} {I : Nat → Nat → Int32} {L : Nat → Nat → Int64} (h1 : (xe_cmp .eq l3 0) = false) (h2 : (xe_cmp .ge (I 3 3) (I 1 1)) = false) (h3 : xe_ib (I 3 3) 940 = true) (h4 : (xe_cmp .lt (I 2 (((I 3 3)).toInt.toNat)) (97 : Int32)) = false) (h5 : (xe_cmp .gt (I 2 (((I 3 3)).toInt.toNat)) (122 : Int32)) = true) (h6 : (xe_cmp .lt (I 2 (((I 3 3)).toInt.toNat)) (48 : Int32)) = true) {v9 : Option Value} {hp9 : xe_H} (r9 : ∃ n, xr_X7_readRun n (6, [(0, .ref 3), (1, .int l1), (2, .int l2), (3, .int (0 : Int32))], [], (I, L)) v9 hp9) : ∃ n, xr_X7_readRun n (6, [(0, .ref 3), (1, .int l1), (2, .int l2), (3, .int l3)], [], (I, L)) v9 hp9 := by
  refine xe_bF 1 (A := (141, [(0, .ref 3), (1, .int l1), (2, .int l2), (3, .int l3)], [], (I, L))) (B := (10, [(0, .ref 3), (1, .int l1), (2, .int l2), (3, .int l3)], [], (I, L))) h1 rfl ?_
  refine xe_bF 5 (A := (141, [(0, .ref 3), (1, .int l1), (2, .int l2), (3, .int l3)], [], (I, L))) (B := (24, [(0, .ref 3), (1, .int l1), (2, .int l2), (3, .int l3)], [], (I, L))) h2 rfl ?_
  refine xe_ar 5 (A := (36, [(0, .ref 3), (1, .int l1), (2, .int l2), (3, .int l3)], [.int (I 2 (((I 3 3)).toInt.toNat))], (I, L))) h3 rfl ?_
  refine xe_bF 3 (A := (89, [(0, .ref 3), (1, .int l1), (2, .int l2), (3, .int l3), (4, .int (I 2 (((I 3 3)).toInt.toNat)))], [], (I, L))) (B := (45, [(0, .ref 3), (1, .int l1), (2, .int l2), (3, .int l3), (4, .int (I 2 (((I 3 3)).toInt.toNat)))], [], (I, L))) h4 rfl ?_
  refine xe_bT 2 (A := (89, [(0, .ref 3), (1, .int l1), (2, .int l2), (3, .int l3), (4, .int (I 2 (((I 3 3)).toInt.toNat)))], [], (I, L))) (B := (52, [(0, .ref 3), (1, .int l1), (2, .int l2), (3, .int l3), (4, .int (I 2 (((I 3 3)).toInt.toNat)))], [], (I, L))) h5 rfl ?_
  refine xe_bT 2 (A := (136, [(0, .ref 3), (1, .int l1), (2, .int l2), (3, .int l3), (4, .int (I 2 (((I 3 3)).toInt.toNat)))], [], (I, L))) (B := (96, [(0, .ref 3), (1, .int l1), (2, .int l2), (3, .int l3), (4, .int (I 2 (((I 3 3)).toInt.toNat)))], [], (I, L))) h6 rfl ?_
  refine xe_go 2 (s' := (6, [(0, .ref 3), (1, .int l1), (2, .int l2), (3, .int (0 : Int32)), (4, .int (I 2 (((I 3 3)).toInt.toNat)))], [], (I, L))) rfl ?_
  exact xe_nrm [0, 1, 2, 3] rfl r9
set_option maxRecDepth 100000 in
theorem pt_X7_readRun_7 {l1 l2 l3 : Int32} {I : Nat → Nat → Int32} {L : Nat → Nat → Int64} (h1 : (xe_cmp .eq l3 0) = false) (h2 : (xe_cmp .ge (I 3 3) (I 1 1)) = false) (h3 : xe_ib (I 3 3) 940 = true) (h4 : (xe_cmp .lt (I 2 (((I 3 3)).toInt.toNat)) (97 : Int32)) = false) (h5 : (xe_cmp .gt (I 2 (((I 3 3)).toInt.toNat)) (122 : Int32)) = true) (h6 : (xe_cmp .lt (I 2 (((I 3 3)).toInt.toNat)) (48 : Int32)) = false) (h7 : (xe_cmp .gt (I 2 (((I 3 3)).toInt.toNat)) (57 : Int32)) = true) {v9 : Option Value} {hp9 : xe_H} (r9 : ∃ n, xr_X7_readRun n (6, [(0, .ref 3), (1, .int l1), (2, .int l2), (3, .int (0 : Int32))], [], (I, L)) v9 hp9) : ∃ n, xr_X7_readRun n (6, [(0, .ref 3), (1, .int l1), (2, .int l2), (3, .int l3)], [], (I, L)) v9 hp9 := by
  refine xe_bF 1 (A := (141, [(0, .ref 3), (1, .int l1), (2, .int l2), (3, .int l3)], [], (I, L))) (B := (10, [(0, .ref 3), (1, .int l1), (2, .int l2), (3, .int l3)], [], (I, L))) h1 rfl ?_
  refine xe_bF 5 (A := (141, [(0, .ref 3), (1, .int l1), (2, .int l2), (3, .int l3)], [], (I, L))) (B := (24, [(0, .ref 3), (1, .int l1), (2, .int l2), (3, .int l3)], [], (I, L))) h2 rfl ?_
  refine xe_ar 5 (A := (36, [(0, .ref 3), (1, .int l1), (2, .int l2), (3, .int l3)], [.int (I 2 (((I 3 3)).toInt.toNat))], (I, L))) h3 rfl ?_
  refine xe_bF 3 (A := (89, [(0, .ref 3), (1, .int l1), (2, .int l2), (3, .int l3), (4, .int (I 2 (((I 3 3)).toInt.toNat)))], [], (I, L))) (B := (45, [(0, .ref 3), (1, .int l1), (2, .int l2), (3, .int l3), (4, .int (I 2 (((I 3 3)).toInt.toNat)))], [], (I, L))) h4 rfl ?_
  refine xe_bT 2 (A := (89, [(0, .ref 3), (1, .int l1), (2, .int l2), (3, .int l3), (4, .int (I 2 (((I 3 3)).toInt.toNat)))], [], (I, L))) (B := (52, [(0, .ref 3), (1, .int l1), (2, .int l2), (3, .int l3), (4, .int (I 2 (((I 3 3)).toInt.toNat)))], [], (I, L))) h5 rfl ?_
  refine xe_bF 2 (A := (136, [(0, .ref 3), (1, .int l1), (2, .int l2), (3, .int l3), (4, .int (I 2 (((I 3 3)).toInt.toNat)))], [], (I, L))) (B := (96, [(0, .ref 3), (1, .int l1), (2, .int l2), (3, .int l3), (4, .int (I 2 (((I 3 3)).toInt.toNat)))], [], (I, L))) h6 rfl ?_
  refine xe_bT 2 (A := (136, [(0, .ref 3), (1, .int l1), (2, .int l2), (3, .int l3), (4, .int (I 2 (((I 3 3)).toInt.toNat)))], [], (I, L))) (B := (103, [(0, .ref 3), (1, .int l1), (2, .int l2), (3, .int l3), (4, .int (I 2 (((I 3 3)).toInt.toNat)))], [], (I, L))) h7 rfl ?_
  refine xe_go 2 (s' := (6, [(0, .ref 3), (1, .int l1), (2, .int l2), (3, .int (0 : Int32)), (4, .int (I 2 (((I 3 3)).toInt.toNat)))], [], (I, L))) rfl ?_
  exact xe_nrm [0, 1, 2, 3] rfl r9
set_option maxRecDepth 100000 in
theorem pt_X7_readRun_8 {l1 l2 l3 : Int32} {I : Nat → Nat → Int32} {L : Nat → Nat → Int64} (h1 : (xe_cmp .eq l3 0) = false) (h2 : (xe_cmp .ge (I 3 3) (I 1 1)) = false) (h3 : xe_ib (I 3 3) 940 = true) (h4 : (xe_cmp .lt (I 2 (((I 3 3)).toInt.toNat)) (97 : Int32)) = false) (h5 : (xe_cmp .gt (I 2 (((I 3 3)).toInt.toNat)) (122 : Int32)) = true) (h6 : (xe_cmp .lt (I 2 (((I 3 3)).toInt.toNat)) (48 : Int32)) = false) (h7 : (xe_cmp .gt (I 2 (((I 3 3)).toInt.toNat)) (57 : Int32)) = false) {v9 : Option Value} {hp9 : xe_H} (r9 : ∃ n, xr_X7_readRun n (6, [(0, .ref 3), (1, .int l1), (2, .int (l2 + (1 : Int32))), (3, .int l3)], [], ((xu (xu I 3 6 (((I 3 6) * (10 : Int32)) + ((I 2 (((I 3 3)).toInt.toNat)) - (48 : Int32)))) 3 3 ((I 3 3) + (1 : Int32))), L)) v9 hp9) : ∃ n, xr_X7_readRun n (6, [(0, .ref 3), (1, .int l1), (2, .int l2), (3, .int l3)], [], (I, L)) v9 hp9 := by
  refine xe_bF 1 (A := (141, [(0, .ref 3), (1, .int l1), (2, .int l2), (3, .int l3)], [], (I, L))) (B := (10, [(0, .ref 3), (1, .int l1), (2, .int l2), (3, .int l3)], [], (I, L))) h1 rfl ?_
  refine xe_bF 5 (A := (141, [(0, .ref 3), (1, .int l1), (2, .int l2), (3, .int l3)], [], (I, L))) (B := (24, [(0, .ref 3), (1, .int l1), (2, .int l2), (3, .int l3)], [], (I, L))) h2 rfl ?_
  refine xe_ar 5 (A := (36, [(0, .ref 3), (1, .int l1), (2, .int l2), (3, .int l3)], [.int (I 2 (((I 3 3)).toInt.toNat))], (I, L))) h3 rfl ?_
  refine xe_bF 3 (A := (89, [(0, .ref 3), (1, .int l1), (2, .int l2), (3, .int l3), (4, .int (I 2 (((I 3 3)).toInt.toNat)))], [], (I, L))) (B := (45, [(0, .ref 3), (1, .int l1), (2, .int l2), (3, .int l3), (4, .int (I 2 (((I 3 3)).toInt.toNat)))], [], (I, L))) h4 rfl ?_
  refine xe_bT 2 (A := (89, [(0, .ref 3), (1, .int l1), (2, .int l2), (3, .int l3), (4, .int (I 2 (((I 3 3)).toInt.toNat)))], [], (I, L))) (B := (52, [(0, .ref 3), (1, .int l1), (2, .int l2), (3, .int l3), (4, .int (I 2 (((I 3 3)).toInt.toNat)))], [], (I, L))) h5 rfl ?_
  refine xe_bF 2 (A := (136, [(0, .ref 3), (1, .int l1), (2, .int l2), (3, .int l3), (4, .int (I 2 (((I 3 3)).toInt.toNat)))], [], (I, L))) (B := (96, [(0, .ref 3), (1, .int l1), (2, .int l2), (3, .int l3), (4, .int (I 2 (((I 3 3)).toInt.toNat)))], [], (I, L))) h6 rfl ?_
  refine xe_bF 2 (A := (136, [(0, .ref 3), (1, .int l1), (2, .int l2), (3, .int l3), (4, .int (I 2 (((I 3 3)).toInt.toNat)))], [], (I, L))) (B := (103, [(0, .ref 3), (1, .int l1), (2, .int l2), (3, .int l3), (4, .int (I 2 (((I 3 3)).toInt.toNat)))], [], (I, L))) h7 rfl ?_
  refine xe_go 18 (s' := (6, [(0, .ref 3), (1, .int l1), (2, .int (l2 + (1 : Int32))), (3, .int l3), (4, .int (I 2 (((I 3 3)).toInt.toNat)))], [], ((xu (xu I 3 6 (((I 3 6) * (10 : Int32)) + ((I 2 (((I 3 3)).toInt.toNat)) - (48 : Int32)))) 3 3 ((I 3 3) + (1 : Int32))), L))) rfl ?_
  exact xe_nrm [0, 1, 2, 3] rfl r9
set_option maxRecDepth 100000 in
theorem pt_X7_readRun_9 {l1 l2 l3 : Int32} {I : Nat → Nat → Int32} {L : Nat → Nat → Int64} (h1 : (xe_cmp .eq l3 0) = false) (h2 : (xe_cmp .ge (I 3 3) (I 1 1)) = false) (h3 : xe_ib (I 3 3) 940 = true) (h4 : (xe_cmp .lt (I 2 (((I 3 3)).toInt.toNat)) (97 : Int32)) = false) (h5 : (xe_cmp .gt (I 2 (((I 3 3)).toInt.toNat)) (122 : Int32)) = false) {v9 : Option Value} {hp9 : xe_H} (r9 : ∃ n, xr_X7_readRun n (6, [(0, .ref 3), (1, .int (l1 + (1 : Int32))), (2, .int l2), (3, .int l3)], [], ((xu I 3 3 ((I 3 3) + (1 : Int32))), (xul L 3 5 (((L 3 5) * (32 : Int64)) + ((((I 2 (((I 3 3)).toInt.toNat)) - (97 : Int32)) + (1 : Int32))).toInt64)))) v9 hp9) : ∃ n, xr_X7_readRun n (6, [(0, .ref 3), (1, .int l1), (2, .int l2), (3, .int l3)], [], (I, L)) v9 hp9 := by
  refine xe_bF 1 (A := (141, [(0, .ref 3), (1, .int l1), (2, .int l2), (3, .int l3)], [], (I, L))) (B := (10, [(0, .ref 3), (1, .int l1), (2, .int l2), (3, .int l3)], [], (I, L))) h1 rfl ?_
  refine xe_bF 5 (A := (141, [(0, .ref 3), (1, .int l1), (2, .int l2), (3, .int l3)], [], (I, L))) (B := (24, [(0, .ref 3), (1, .int l1), (2, .int l2), (3, .int l3)], [], (I, L))) h2 rfl ?_
  refine xe_ar 5 (A := (36, [(0, .ref 3), (1, .int l1), (2, .int l2), (3, .int l3)], [.int (I 2 (((I 3 3)).toInt.toNat))], (I, L))) h3 rfl ?_
  refine xe_bF 3 (A := (89, [(0, .ref 3), (1, .int l1), (2, .int l2), (3, .int l3), (4, .int (I 2 (((I 3 3)).toInt.toNat)))], [], (I, L))) (B := (45, [(0, .ref 3), (1, .int l1), (2, .int l2), (3, .int l3), (4, .int (I 2 (((I 3 3)).toInt.toNat)))], [], (I, L))) h4 rfl ?_
  refine xe_bF 2 (A := (89, [(0, .ref 3), (1, .int l1), (2, .int l2), (3, .int l3), (4, .int (I 2 (((I 3 3)).toInt.toNat)))], [], (I, L))) (B := (52, [(0, .ref 3), (1, .int l1), (2, .int l2), (3, .int l3), (4, .int (I 2 (((I 3 3)).toInt.toNat)))], [], (I, L))) h5 rfl ?_
  refine xe_go 21 (s' := (6, [(0, .ref 3), (1, .int (l1 + (1 : Int32))), (2, .int l2), (3, .int l3), (4, .int (I 2 (((I 3 3)).toInt.toNat)))], [], ((xu I 3 3 ((I 3 3) + (1 : Int32))), (xul L 3 5 (((L 3 5) * (32 : Int64)) + ((((I 2 (((I 3 3)).toInt.toNat)) - (97 : Int32)) + (1 : Int32))).toInt64))))) rfl ?_
  exact xe_nrm [0, 1, 2, 3] rfl r9
set_option maxRecDepth 100000 in
theorem pt_X7_readRun_10 {l1 l2 l3 : Int32} {I : Nat → Nat → Int32} {L : Nat → Nat → Int64} (h1 : (xe_cmp .ne l2 0) = true) (h2 : (xe_cmp .ne l1 0) = true) : ∃ n, xr_X7_readRun n (141, [(0, .ref 3), (1, .int l1), (2, .int l2), (3, .int l3)], [], (I, L)) none ((xu I 3 4 (4 : Int32)), (xul L 3 5 (Int64.ofNat 0))) := by
  refine xe_bT 1 (A := (159, [(0, .ref 3), (1, .int l1), (2, .int l2), (3, .int l3)], [], (I, L))) (B := (145, [(0, .ref 3), (1, .int l1), (2, .int l2), (3, .int l3)], [], (I, L))) h1 rfl ?_
  refine xe_bT 1 (A := (176, [(0, .ref 3), (1, .int l1), (2, .int l2), (3, .int l3)], [], (I, L))) (B := (163, [(0, .ref 3), (1, .int l1), (2, .int l2), (3, .int l3)], [], (I, L))) h2 rfl ?_
  refine xe_go 5 (s' := (186, [(0, .ref 3), (1, .int l1), (2, .int l2), (3, .int l3)], [], ((xu I 3 4 (4 : Int32)), (xul L 3 5 (Int64.ofNat 0))))) rfl ?_
  exact xe_end rfl rfl rfl
set_option maxRecDepth 100000 in
theorem pt_X7_readRun_11 {l1 l2 l3 : Int32} {I : Nat → Nat → Int32} {L : Nat → Nat → Int64} (h1 : (xe_cmp .ne l2 0) = true) (h2 : (xe_cmp .ne l1 0) = false) (h3 : (xe_cmp .gt l2 (3 : Int32)) = true) : ∃ n, xr_X7_readRun n (141, [(0, .ref 3), (1, .int l1), (2, .int l2), (3, .int l3)], [], (I, L)) none ((xu I 3 4 (4 : Int32)), (xul L 3 5 (Int64.ofNat 0))) := by
  refine xe_bT 1 (A := (159, [(0, .ref 3), (1, .int l1), (2, .int l2), (3, .int l3)], [], (I, L))) (B := (145, [(0, .ref 3), (1, .int l1), (2, .int l2), (3, .int l3)], [], (I, L))) h1 rfl ?_
  refine xe_bF 1 (A := (176, [(0, .ref 3), (1, .int l1), (2, .int l2), (3, .int l3)], [], (I, L))) (B := (163, [(0, .ref 3), (1, .int l1), (2, .int l2), (3, .int l3)], [], (I, L))) h2 rfl ?_
  refine xe_bT 2 (A := (176, [(0, .ref 3), (1, .int l1), (2, .int l2), (3, .int l3)], [], (I, L))) (B := (168, [(0, .ref 3), (1, .int l1), (2, .int l2), (3, .int l3)], [], (I, L))) h3 rfl ?_
  refine xe_go 5 (s' := (186, [(0, .ref 3), (1, .int l1), (2, .int l2), (3, .int l3)], [], ((xu I 3 4 (4 : Int32)), (xul L 3 5 (Int64.ofNat 0))))) rfl ?_
  exact xe_end rfl rfl rfl
set_option maxRecDepth 100000 in
theorem pt_X7_readRun_12 {l1 l2 l3 : Int32} {I : Nat → Nat → Int32} {L : Nat → Nat → Int64} (h1 : (xe_cmp .ne l2 0) = true) (h2 : (xe_cmp .ne l1 0) = false) (h3 : (xe_cmp .gt l2 (3 : Int32)) = false) : ∃ n, xr_X7_readRun n (141, [(0, .ref 3), (1, .int l1), (2, .int l2), (3, .int l3)], [], (I, L)) none ((xu I 3 4 (2 : Int32)), L) := by
  refine xe_bT 1 (A := (159, [(0, .ref 3), (1, .int l1), (2, .int l2), (3, .int l3)], [], (I, L))) (B := (145, [(0, .ref 3), (1, .int l1), (2, .int l2), (3, .int l3)], [], (I, L))) h1 rfl ?_
  refine xe_bF 1 (A := (176, [(0, .ref 3), (1, .int l1), (2, .int l2), (3, .int l3)], [], (I, L))) (B := (163, [(0, .ref 3), (1, .int l1), (2, .int l2), (3, .int l3)], [], (I, L))) h2 rfl ?_
  refine xe_bF 2 (A := (176, [(0, .ref 3), (1, .int l1), (2, .int l2), (3, .int l3)], [], (I, L))) (B := (168, [(0, .ref 3), (1, .int l1), (2, .int l2), (3, .int l3)], [], (I, L))) h3 rfl ?_
  refine xe_go 3 (s' := (186, [(0, .ref 3), (1, .int l1), (2, .int l2), (3, .int l3)], [], ((xu I 3 4 (2 : Int32)), L))) rfl ?_
  exact xe_end rfl rfl rfl
set_option maxRecDepth 100000 in
theorem pt_X7_readRun_13 {l1 l2 l3 : Int32} {I : Nat → Nat → Int32} {L : Nat → Nat → Int64} (h1 : (xe_cmp .ne l2 0) = false) (h2 : (xe_cmp .gt l1 (12 : Int32)) = true) (h3 : (xe_cmp .ne l1 0) = true) : ∃ n, xr_X7_readRun n (141, [(0, .ref 3), (1, .int l1), (2, .int l2), (3, .int l3)], [], (I, L)) none ((xu I 3 4 (4 : Int32)), (xul L 3 5 (Int64.ofNat 0))) := by
  refine xe_bF 1 (A := (159, [(0, .ref 3), (1, .int l1), (2, .int l2), (3, .int l3)], [], (I, L))) (B := (145, [(0, .ref 3), (1, .int l1), (2, .int l2), (3, .int l3)], [], (I, L))) h1 rfl ?_
  refine xe_bT 2 (A := (159, [(0, .ref 3), (1, .int l1), (2, .int l2), (3, .int l3)], [], (I, L))) (B := (151, [(0, .ref 3), (1, .int l1), (2, .int l2), (3, .int l3)], [], (I, L))) h2 rfl ?_
  refine xe_bT 1 (A := (176, [(0, .ref 3), (1, .int l1), (2, .int l2), (3, .int l3)], [], (I, L))) (B := (163, [(0, .ref 3), (1, .int l1), (2, .int l2), (3, .int l3)], [], (I, L))) h3 rfl ?_
  refine xe_go 5 (s' := (186, [(0, .ref 3), (1, .int l1), (2, .int l2), (3, .int l3)], [], ((xu I 3 4 (4 : Int32)), (xul L 3 5 (Int64.ofNat 0))))) rfl ?_
  exact xe_end rfl rfl rfl
set_option maxRecDepth 100000 in
theorem pt_X7_readRun_14 {l1 l2 l3 : Int32} {I : Nat → Nat → Int32} {L : Nat → Nat → Int64} (h1 : (xe_cmp .ne l2 0) = false) (h2 : (xe_cmp .gt l1 (12 : Int32)) = true) (h3 : (xe_cmp .ne l1 0) = false) (h4 : (xe_cmp .gt l2 (3 : Int32)) = true) : ∃ n, xr_X7_readRun n (141, [(0, .ref 3), (1, .int l1), (2, .int l2), (3, .int l3)], [], (I, L)) none ((xu I 3 4 (4 : Int32)), (xul L 3 5 (Int64.ofNat 0))) := by
  refine xe_bF 1 (A := (159, [(0, .ref 3), (1, .int l1), (2, .int l2), (3, .int l3)], [], (I, L))) (B := (145, [(0, .ref 3), (1, .int l1), (2, .int l2), (3, .int l3)], [], (I, L))) h1 rfl ?_
  refine xe_bT 2 (A := (159, [(0, .ref 3), (1, .int l1), (2, .int l2), (3, .int l3)], [], (I, L))) (B := (151, [(0, .ref 3), (1, .int l1), (2, .int l2), (3, .int l3)], [], (I, L))) h2 rfl ?_
  refine xe_bF 1 (A := (176, [(0, .ref 3), (1, .int l1), (2, .int l2), (3, .int l3)], [], (I, L))) (B := (163, [(0, .ref 3), (1, .int l1), (2, .int l2), (3, .int l3)], [], (I, L))) h3 rfl ?_
  refine xe_bT 2 (A := (176, [(0, .ref 3), (1, .int l1), (2, .int l2), (3, .int l3)], [], (I, L))) (B := (168, [(0, .ref 3), (1, .int l1), (2, .int l2), (3, .int l3)], [], (I, L))) h4 rfl ?_
  refine xe_go 5 (s' := (186, [(0, .ref 3), (1, .int l1), (2, .int l2), (3, .int l3)], [], ((xu I 3 4 (4 : Int32)), (xul L 3 5 (Int64.ofNat 0))))) rfl ?_
  exact xe_end rfl rfl rfl
set_option maxRecDepth 100000 in
theorem pt_X7_readRun_15 {l1 l2 l3 : Int32} {I : Nat → Nat → Int32} {L : Nat → Nat → Int64} (h1 : (xe_cmp .ne l2 0) = false) (h2 : (xe_cmp .gt l1 (12 : Int32)) = true) (h3 : (xe_cmp .ne l1 0) = false) (h4 : (xe_cmp .gt l2 (3 : Int32)) = false) : ∃ n, xr_X7_readRun n (141, [(0, .ref 3), (1, .int l1), (2, .int l2), (3, .int l3)], [], (I, L)) none ((xu I 3 4 (2 : Int32)), L) := by
  refine xe_bF 1 (A := (159, [(0, .ref 3), (1, .int l1), (2, .int l2), (3, .int l3)], [], (I, L))) (B := (145, [(0, .ref 3), (1, .int l1), (2, .int l2), (3, .int l3)], [], (I, L))) h1 rfl ?_
  refine xe_bT 2 (A := (159, [(0, .ref 3), (1, .int l1), (2, .int l2), (3, .int l3)], [], (I, L))) (B := (151, [(0, .ref 3), (1, .int l1), (2, .int l2), (3, .int l3)], [], (I, L))) h2 rfl ?_
  refine xe_bF 1 (A := (176, [(0, .ref 3), (1, .int l1), (2, .int l2), (3, .int l3)], [], (I, L))) (B := (163, [(0, .ref 3), (1, .int l1), (2, .int l2), (3, .int l3)], [], (I, L))) h3 rfl ?_
  refine xe_bF 2 (A := (176, [(0, .ref 3), (1, .int l1), (2, .int l2), (3, .int l3)], [], (I, L))) (B := (168, [(0, .ref 3), (1, .int l1), (2, .int l2), (3, .int l3)], [], (I, L))) h4 rfl ?_
  refine xe_go 3 (s' := (186, [(0, .ref 3), (1, .int l1), (2, .int l2), (3, .int l3)], [], ((xu I 3 4 (2 : Int32)), L))) rfl ?_
  exact xe_end rfl rfl rfl
set_option maxRecDepth 100000 in
theorem pt_X7_readRun_16 {l1 l2 l3 : Int32} {I : Nat → Nat → Int32} {L : Nat → Nat → Int64} (h1 : (xe_cmp .ne l2 0) = false) (h2 : (xe_cmp .gt l1 (12 : Int32)) = false) : ∃ n, xr_X7_readRun n (141, [(0, .ref 3), (1, .int l1), (2, .int l2), (3, .int l3)], [], (I, L)) none ((xu I 3 4 (1 : Int32)), L) := by
  refine xe_bF 1 (A := (159, [(0, .ref 3), (1, .int l1), (2, .int l2), (3, .int l3)], [], (I, L))) (B := (145, [(0, .ref 3), (1, .int l1), (2, .int l2), (3, .int l3)], [], (I, L))) h1 rfl ?_
  refine xe_bF 2 (A := (159, [(0, .ref 3), (1, .int l1), (2, .int l2), (3, .int l3)], [], (I, L))) (B := (151, [(0, .ref 3), (1, .int l1), (2, .int l2), (3, .int l3)], [], (I, L))) h2 rfl ?_
  refine xe_go 3 (s' := (186, [(0, .ref 3), (1, .int l1), (2, .int l2), (3, .int l3)], [], ((xu I 3 4 (1 : Int32)), L))) rfl ?_
  exact xe_end rfl rfl rfl
def xi_X7_step : List (Nat × Nat × Instr) := [(0, 1, .aload_n 0), (1, 3, .getfield 19), (4, 1, .aload_n 0), (5, 3, .getfield 9), (8, 3, .getfield 31), (11, 3, .if_icmp .ge 34), (14, 1, .aload_n 0), (15, 3, .getfield 9), (18, 3, .getfield 36), (21, 1, .aload_n 0), (22, 3, .getfield 19), (25, 1, .iaload), (26, 3, .invokestatic 40), (29, 3, .ifCond .eq 16), (32, 1, .aload_n 0), (33, 1, .dup), (34, 3, .getfield 19), (37, 1, .iconst 1), (38, 1, .iadd), (39, 3, .putfield 19), (42, 3, .goto (-42)), (45, 1, .aload_n 0), (46, 1, .aload_n 0), (47, 3, .getfield 19), (50, 3, .putfield 44), (53, 1, .aload_n 0), (54, 1, .lconst 0), (55, 3, .putfield 47), (58, 1, .aload_n 0), (59, 1, .iconst 0), (60, 3, .putfield 51), (63, 1, .aload_n 0), (64, 1, .iconst 0), (65, 3, .putfield 54), (68, 1, .aload_n 0), (69, 3, .getfield 19), (72, 1, .aload_n 0), (73, 3, .getfield 15), (76, 3, .if_icmp .lt 33), (79, 1, .aload_n 0), (80, 3, .getfield 9), (83, 3, .getfield 31), (86, 1, .aload_n 0), (87, 3, .getfield 15), (90, 3, .if_icmp .le 19), (93, 1, .aload_n 0), (94, 1, .aload_n 0), (95, 3, .getfield 15), (98, 3, .putfield 44), (101, 1, .aload_n 0), (102, 1, .iconst 4), (103, 3, .putfield 57), (106, 3, .goto 71), (109, 1, .aload_n 0), (110, 3, .getfield 19), (113, 1, .aload_n 0), (114, 3, .getfield 9), (117, 3, .getfield 31), (120, 3, .if_icmp .lt 11), (123, 1, .aload_n 0), (124, 1, .iconst 0), (125, 3, .putfield 57), (128, 3, .goto 49), (131, 1, .aload_n 0), (132, 3, .invokevirtual 60), (135, 1, .aload_n 0), (136, 3, .getfield 19), (139, 1, .aload_n 0), (140, 3, .getfield 44), (143, 3, .if_icmp .ne 34), (146, 1, .aload_n 0), (147, 1, .aload_n 0), (148, 3, .getfield 9), (151, 3, .getfield 36), (154, 1, .aload_n 0), (155, 3, .getfield 19), (158, 1, .iaload), (159, 3, .putfield 54), (162, 1, .aload_n 0), (163, 1, .iconst 3), (164, 3, .putfield 57), (167, 1, .aload_n 0), (168, 1, .dup), (169, 3, .getfield 19), (172, 1, .iconst 1), (173, 1, .iadd), (174, 3, .putfield 19), (177, 1, .return_)]
def xg_X7_step : zf_ft := [(19, 5, 3, .inl (0, 0)), (9, 5, 0, .inl (0, 0)), (31, 7, 1, .inl (0, 0)), (36, 7, 0, .inl (0, 0)), (15, 5, 1, .inl (0, 0)), (44, 5, 2, .inl (0, 0))]
def xp_X7_step : zf_ft := [(19, 5, 3, .inl ((-2147483648), 2147483647)), (44, 5, 2, .inl ((-2147483648), 2147483647)), (47, 5, 5, .inr none), (51, 5, 6, .inl ((-2147483648), 2147483647)), (54, 5, 7, .inl ((-2147483648), 2147483647)), (57, 5, 4, .inl ((-2147483648), 2147483647))]
def xv_X7_step : List (Nat × Nat × xe_F) := [(60, 1, fx_X7_readRun)]
def xt_X7_step : List (Nat × Nat × xe_F) := [(40, 1, fx_X7_isBlank)]
abbrev xr_X7_step := xe_run xGT xSC xRF 1 xg_X7_step xp_X7_step [] [] xv_X7_step xt_X7_step xi_X7_step
def fx_X7_step : xe_F := fun us hp v hp' => (us.map fun v => v.category).sum ≤ 1 ∧ xe_rt none v ∧ (∃ ar, us = ar ++ [.ref 3]) ∧ ∃ n, xr_X7_step n (0, xe_ag 0 us.reverse, [], hp) v hp'
theorem mk_X7_step  {hp hp' : xe_H} {v : Option Value} (hr : xe_rt none v) (h : ∃ n, xr_X7_step n (0, [(0, .ref 3)], [], hp) v hp') : fx_X7_step [.ref 3] hp v hp' := ⟨Nat.le_of_ble_eq_true rfl, hr, ⟨[], rfl⟩, h⟩
theorem hx_X7_step : ∀ us hp v hp', fx_X7_step us hp v hp' → (us.map fun v => v.category).sum ≤ 1 ∧ xe_rt none v ∧ ∃ n, xr_X7_step n (0, xe_ag 0 us.reverse, [], hp) v hp' := fun us hp v hp' h => ⟨h.1, h.2.1, h.2.2.2⟩
theorem fr_X7_step : ∀ us hp v hp', fx_X7_step us hp v hp' → ∃ ar, us = ar ++ [.ref 3] := fun us hp v hp' h => h.2.2.1
set_option maxRecDepth 100000 in
set_option maxHeartbeats 4000000 in
theorem kx_X7_step (l : Launch) (D : va_G) (k : Nat → ClassId) (B0 : Nat) (ad : Nat → Nat) (al sw : Nat) : xe_Con l yX7_step (zw yX7_step cX7_step 1 none) ({ frames := 1, cells := 0, slots := 0, locals := 24 }) D k ad (zEx B0 ad al sw) xGT xSC xRF fx_X7_step := by
  have hEx := zEx_ok B0 ad al sw
  refine xe_mk (cc := cX7_step) (nL := 1) (ret := none) (fg := xg_X7_step) (fp := xp_X7_step) (sg := []) (lc := []) (cv := xv_X7_step) (cs := xt_X7_step) (ins := xi_X7_step) (by decide) rfl hEx (by decide +kernel) hx_X7_step ?_
  intro p e s m args below meth c Q Sg w0 A θ S hK hE hAB hA hth
  refine ⟨?_, ?_, ?_, ?_, ?_, ?_⟩
  · exact zf_ac ((fun H locs ws a q0 fs v rest pc ls hP he hv hdg kk => va_get (D := D) (ci := 5) (C := RX7) (T := TX7) (N := 11) (own := RX7) S.1 S.2.1 S.2.2.2.2 (zg_in inW_X7) S.2.2.2.1 hK hP q0 he rfl 3 (by decide) (S.2.2.2.2 (.fieldLink RX7 19 "RungMoney$Reader" "next" "I") (List.mem_cons_of_mem _ zw_153)) (fun _ h9 => h9) hv hdg kk)) (zf_ac ((fun H locs ws a q0 fs v rest pc ls hP he hv hdg kk => va_get (D := D) (ci := 5) (C := RX7) (T := TX7) (N := 11) (own := RX7) S.1 S.2.1 S.2.2.2.2 (zg_in inW_X7) S.2.2.2.1 hK hP q0 he rfl 0 (by decide) (S.2.2.2.2 (.fieldLink RX7 9 "RungMoney$Reader" "tape" "LRungMoney$Tape;") (List.mem_cons_of_mem _ zw_150)) (fun _ h9 => h9) hv hdg kk)) (zf_ac ((fun H locs ws a q0 fs v rest pc ls hP he hv hdg kk => va_get (D := D) (ci := 7) (C := RX9) (T := TX9) (N := 2) (own := RX7) S.1 S.2.1 S.2.2.2.2 (zg_in inW_X9) S.2.2.2.1 hK hP q0 he rfl 1 (by decide) (S.2.2.2.2 (.fieldLink RX7 31 "RungMoney$Tape" "size" "I") (List.mem_cons_of_mem _ zw_137)) (fun _ h9 => h9) hv hdg kk)) (zf_ac ((fun H locs ws a q0 fs v rest pc ls hP he hv hdg kk => va_get (D := D) (ci := 7) (C := RX9) (T := TX9) (N := 2) (own := RX7) S.1 S.2.1 S.2.2.2.2 (zg_in inW_X9) S.2.2.2.1 hK hP q0 he rfl 0 (by decide) (S.2.2.2.2 (.fieldLink RX7 36 "RungMoney$Tape" "bytes" "[I") (List.mem_cons_of_mem _ zw_133)) (fun _ h9 => h9) hv hdg kk)) (zf_ac ((fun H locs ws a q0 fs v rest pc ls hP he hv hdg kk => va_get (D := D) (ci := 5) (C := RX7) (T := TX7) (N := 11) (own := RX7) S.1 S.2.1 S.2.2.2.2 (zg_in inW_X7) S.2.2.2.1 hK hP q0 he rfl 1 (by decide) (S.2.2.2.2 (.fieldLink RX7 15 "RungMoney$Reader" "most" "I") (List.mem_cons_of_mem _ zw_151)) (fun _ h9 => h9) hv hdg kk)) (zf_ac ((fun H locs ws a q0 fs v rest pc ls hP he hv hdg kk => va_get (D := D) (ci := 5) (C := RX7) (T := TX7) (N := 11) (own := RX7) S.1 S.2.1 S.2.2.2.2 (zg_in inW_X7) S.2.2.2.1 hK hP q0 he rfl 2 (by decide) (S.2.2.2.2 (.fieldLink RX7 44 "RungMoney$Reader" "at" "I") (List.mem_cons_of_mem _ zw_152)) (fun _ h9 => h9) hv hdg kk)) zf_an)))))
  · exact zf_ac ((fun H locs ws a q0 fs v rest pc ls hP hD hS he hl hv hdg kk => by obtain ⟨x, rfl, h1, h2⟩ := hv; exact va_put (D := D) (ci := 5) (v := .int x) (ty := .int) (C := RX7) (T := TX7) (N := 11) (own := RX7) S.1 S.2.1 S.2.2.2.2 (zg_in inW_X7) tyX7 tyX7_ok nmX7 S.2.2.2.1 hK hP hD hS q0 he rfl 3 (by decide) (S.2.2.2.2 (.fieldLink RX7 19 "RungMoney$Reader" "next" "I") (List.mem_cons_of_mem _ zw_153)) (fun _ h9 => h9) rfl (by decide +kernel) rfl rfl hl hdg kk)) (zf_ac ((fun H locs ws a q0 fs v rest pc ls hP hD hS he hl hv hdg kk => by obtain ⟨x, rfl, h1, h2⟩ := hv; exact va_put (D := D) (ci := 5) (v := .int x) (ty := .int) (C := RX7) (T := TX7) (N := 11) (own := RX7) S.1 S.2.1 S.2.2.2.2 (zg_in inW_X7) tyX7 tyX7_ok nmX7 S.2.2.2.1 hK hP hD hS q0 he rfl 2 (by decide) (S.2.2.2.2 (.fieldLink RX7 44 "RungMoney$Reader" "at" "I") (List.mem_cons_of_mem _ zw_152)) (fun _ h9 => h9) rfl (by decide +kernel) rfl rfl hl hdg kk)) (zf_ac ((fun H locs ws a q0 fs v rest pc ls hP hD hS he hl hv hdg kk => by obtain ⟨x, rfl⟩ := hv; exact va_put (D := D) (ci := 5) (v := .long x) (ty := .long) (C := RX7) (T := TX7) (N := 11) (own := RX7) S.1 S.2.1 S.2.2.2.2 (zg_in inW_X7) tyX7 tyX7_ok nmX7 S.2.2.2.1 hK hP hD hS q0 he rfl 5 (by decide) (S.2.2.2.2 (.fieldLink RX7 47 "RungMoney$Reader" "word" "J") (List.mem_cons_of_mem _ zw_158)) (fun _ h9 => h9) rfl (by decide +kernel) rfl rfl hl hdg kk)) (zf_ac ((fun H locs ws a q0 fs v rest pc ls hP hD hS he hl hv hdg kk => by obtain ⟨x, rfl, h1, h2⟩ := hv; exact va_put (D := D) (ci := 5) (v := .int x) (ty := .int) (C := RX7) (T := TX7) (N := 11) (own := RX7) S.1 S.2.1 S.2.2.2.2 (zg_in inW_X7) tyX7 tyX7_ok nmX7 S.2.2.2.1 hK hP hD hS q0 he rfl 6 (by decide) (S.2.2.2.2 (.fieldLink RX7 51 "RungMoney$Reader" "number" "I") (List.mem_cons_of_mem _ zw_160)) (fun _ h9 => h9) rfl (by decide +kernel) rfl rfl hl hdg kk)) (zf_ac ((fun H locs ws a q0 fs v rest pc ls hP hD hS he hl hv hdg kk => by obtain ⟨x, rfl, h1, h2⟩ := hv; exact va_put (D := D) (ci := 5) (v := .int x) (ty := .int) (C := RX7) (T := TX7) (N := 11) (own := RX7) S.1 S.2.1 S.2.2.2.2 (zg_in inW_X7) tyX7 tyX7_ok nmX7 S.2.2.2.1 hK hP hD hS q0 he rfl 7 (by decide) (S.2.2.2.2 (.fieldLink RX7 54 "RungMoney$Reader" "sign" "I") (List.mem_cons_of_mem _ zw_161)) (fun _ h9 => h9) rfl (by decide +kernel) rfl rfl hl hdg kk)) (zf_ac ((fun H locs ws a q0 fs v rest pc ls hP hD hS he hl hv hdg kk => by obtain ⟨x, rfl, h1, h2⟩ := hv; exact va_put (D := D) (ci := 5) (v := .int x) (ty := .int) (C := RX7) (T := TX7) (N := 11) (own := RX7) S.1 S.2.1 S.2.2.2.2 (zg_in inW_X7) tyX7 tyX7_ok nmX7 S.2.2.2.1 hK hP hD hS q0 he rfl 4 (by decide) (S.2.2.2.2 (.fieldLink RX7 57 "RungMoney$Reader" "kind" "I") (List.mem_cons_of_mem _ zw_156)) (fun _ h9 => h9) rfl (by decide +kernel) rfl rfl hl hdg kk)) zf_an)))))
  · exact xe_n2
  · exact xe_n3
  · exact xe_a4 (xe_crV S hEx hE hAB hA hK hth (kx_X7_readRun l D k B0 ad al sw) (cwV 0 S.2.2.2.2 (zg_V zw_500 zw_502 zw_0 zw_97 zw_503) rfl rfl rfl (by decide +kernel) ⟨(Nat.le_of_ble_eq_true rfl), (Nat.le_of_ble_eq_true rfl)⟩) ⟨(Nat.le_of_ble_eq_true rfl), (Nat.le_of_ble_eq_true rfl)⟩ 5 rfl rfl 3 (by decide +kernel) fr_X7_readRun) xe_n4
  · exact xe_a4 (xe_crS S hEx hE hAB hA hK hth (kx_X7_isBlank l D k B0 ad al sw) (va_cwS 1 S.2.2.2.2 (zg_S zw_497 zw_498 zw_97 zw_499) rfl rfl rfl (by decide +kernel) ⟨(Nat.le_of_ble_eq_true rfl), (Nat.le_of_ble_eq_true rfl)⟩) ⟨(Nat.le_of_ble_eq_true rfl), (Nat.le_of_ble_eq_true rfl)⟩) xe_n4
set_option maxRecDepth 100000 in
theorem pt_X7_step_0 {I : Nat → Nat → Int32} {L : Nat → Nat → Int64} (h1 : (xe_cmp .ge (I 3 3) (I 1 1)) = true) {v9 : Option Value} {hp9 : xe_H} (r9 : ∃ n, xr_X7_step n (45, [(0, .ref 3)], [], (I, L)) v9 hp9) : ∃ n, xr_X7_step n (0, [(0, .ref 3)], [], (I, L)) v9 hp9 := by
  refine xe_bT 5 (A := (45, [(0, .ref 3)], [], (I, L))) (B := (14, [(0, .ref 3)], [], (I, L))) h1 rfl ?_
  exact xe_nrm [0] rfl r9
set_option maxRecDepth 100000 in
theorem pt_X7_step_1 {I I1 : Nat → Nat → Int32} {L L1 : Nat → Nat → Int64} (h1 : (xe_cmp .ge (I 3 3) (I 1 1)) = false) (h2 : xe_ib (I 3 3) 940 = true) (c1 : fx_X7_isBlank [.int (I 2 (((I 3 3)).toInt.toNat))] (I, L) (some (.int 1)) (I1, L1)) {v9 : Option Value} {hp9 : xe_H} (r9 : ∃ n, xr_X7_step n (0, [(0, .ref 3)], [], ((xu I1 3 3 ((I1 3 3) + (1 : Int32))), L1)) v9 hp9) : ∃ n, xr_X7_step n (0, [(0, .ref 3)], [], (I, L)) v9 hp9 := by
  refine xe_bF 5 (A := (45, [(0, .ref 3)], [], (I, L))) (B := (14, [(0, .ref 3)], [], (I, L))) h1 rfl ?_
  refine xe_ar 5 (A := (26, [(0, .ref 3)], [.int (I 2 (((I 3 3)).toInt.toNat))], (I, L))) h2 rfl ?_
  refine xe_sta (n := 1) (f := fx_X7_isBlank) rfl (Nat.le_of_ble_eq_true rfl) (List.mem_of_getElem? (i := 0) rfl) (Nat.le_of_ble_eq_true rfl) c1 ?_
  refine xe_go 7 (s' := (0, [(0, .ref 3)], [], ((xu I1 3 3 ((I1 3 3) + (1 : Int32))), L1))) rfl ?_
  exact xe_nrm [0] rfl r9
set_option maxRecDepth 100000 in
theorem pt_X7_step_2 {I I1 : Nat → Nat → Int32} {L L1 : Nat → Nat → Int64} (h1 : (xe_cmp .ge (I 3 3) (I 1 1)) = false) (h2 : xe_ib (I 3 3) 940 = true) (c1 : fx_X7_isBlank [.int (I 2 (((I 3 3)).toInt.toNat))] (I, L) (some (.int 0)) (I1, L1)) {v9 : Option Value} {hp9 : xe_H} (r9 : ∃ n, xr_X7_step n (45, [(0, .ref 3)], [], (I1, L1)) v9 hp9) : ∃ n, xr_X7_step n (0, [(0, .ref 3)], [], (I, L)) v9 hp9 := by
  refine xe_bF 5 (A := (45, [(0, .ref 3)], [], (I, L))) (B := (14, [(0, .ref 3)], [], (I, L))) h1 rfl ?_
  refine xe_ar 5 (A := (26, [(0, .ref 3)], [.int (I 2 (((I 3 3)).toInt.toNat))], (I, L))) h2 rfl ?_
  refine xe_sta (n := 1) (f := fx_X7_isBlank) rfl (Nat.le_of_ble_eq_true rfl) (List.mem_of_getElem? (i := 0) rfl) (Nat.le_of_ble_eq_true rfl) c1 ?_
  refine xe_go 0 (s' := (45, [(0, .ref 3)], [], (I1, L1))) rfl ?_
  exact xe_nrm [0] rfl r9
set_option maxRecDepth 100000 in
theorem pt_X7_step_3 {I I1 : Nat → Nat → Int32} {L L1 : Nat → Nat → Int64} (h1 : (xe_cmp .lt (I 3 3) (I 3 1)) = true) (h2 : (xe_cmp .lt (I 3 3) (I 1 1)) = true) (c1 : fx_X7_readRun [.ref 3] ((xu (xu (xu I 3 2 (I 3 3)) 3 6 (0 : Int32)) 3 7 (0 : Int32)), (xul L 3 5 (Int64.ofNat 0))) none (I1, L1)) (h3 : (xe_cmp .ne (I1 3 3) (I1 3 2)) = true) : ∃ n, xr_X7_step n (45, [(0, .ref 3)], [], (I, L)) none (I1, L1) := by
  refine xe_bT 17 (A := (109, [(0, .ref 3)], [], ((xu (xu (xu I 3 2 (I 3 3)) 3 6 (0 : Int32)) 3 7 (0 : Int32)), (xul L 3 5 (Int64.ofNat 0))))) (B := (79, [(0, .ref 3)], [], ((xu (xu (xu I 3 2 (I 3 3)) 3 6 (0 : Int32)) 3 7 (0 : Int32)), (xul L 3 5 (Int64.ofNat 0))))) h1 rfl ?_
  refine xe_bT 5 (A := (131, [(0, .ref 3)], [], ((xu (xu (xu I 3 2 (I 3 3)) 3 6 (0 : Int32)) 3 7 (0 : Int32)), (xul L 3 5 (Int64.ofNat 0))))) (B := (123, [(0, .ref 3)], [], ((xu (xu (xu I 3 2 (I 3 3)) 3 6 (0 : Int32)) 3 7 (0 : Int32)), (xul L 3 5 (Int64.ofNat 0))))) h2 rfl ?_
  refine xe_go 0 (s' := (132, [(0, .ref 3)], [.ref 3], ((xu (xu (xu I 3 2 (I 3 3)) 3 6 (0 : Int32)) 3 7 (0 : Int32)), (xul L 3 5 (Int64.ofNat 0))))) rfl ?_
  refine xe_vir (n := 1) (f := fx_X7_readRun) rfl (Nat.le_of_ble_eq_true rfl) (List.mem_of_getElem? (i := 0) rfl) (Nat.le_of_ble_eq_true rfl) c1 ?_
  refine xe_bT 4 (A := (177, [(0, .ref 3)], [], (I1, L1))) (B := (146, [(0, .ref 3)], [], (I1, L1))) h3 rfl ?_
  exact xe_end rfl rfl rfl
set_option maxRecDepth 100000 in
theorem pt_X7_step_4 {I I1 : Nat → Nat → Int32} {L L1 : Nat → Nat → Int64} (h1 : (xe_cmp .lt (I 3 3) (I 3 1)) = true) (h2 : (xe_cmp .lt (I 3 3) (I 1 1)) = true) (c1 : fx_X7_readRun [.ref 3] ((xu (xu (xu I 3 2 (I 3 3)) 3 6 (0 : Int32)) 3 7 (0 : Int32)), (xul L 3 5 (Int64.ofNat 0))) none (I1, L1)) (h3 : (xe_cmp .ne (I1 3 3) (I1 3 2)) = false) (h4 : xe_ib (I1 3 3) 940 = true) : ∃ n, xr_X7_step n (45, [(0, .ref 3)], [], (I, L)) none ((xu (xu (xu I1 3 7 (I1 2 (((I1 3 3)).toInt.toNat))) 3 4 (3 : Int32)) 3 3 ((I1 3 3) + (1 : Int32))), L1) := by
  refine xe_bT 17 (A := (109, [(0, .ref 3)], [], ((xu (xu (xu I 3 2 (I 3 3)) 3 6 (0 : Int32)) 3 7 (0 : Int32)), (xul L 3 5 (Int64.ofNat 0))))) (B := (79, [(0, .ref 3)], [], ((xu (xu (xu I 3 2 (I 3 3)) 3 6 (0 : Int32)) 3 7 (0 : Int32)), (xul L 3 5 (Int64.ofNat 0))))) h1 rfl ?_
  refine xe_bT 5 (A := (131, [(0, .ref 3)], [], ((xu (xu (xu I 3 2 (I 3 3)) 3 6 (0 : Int32)) 3 7 (0 : Int32)), (xul L 3 5 (Int64.ofNat 0))))) (B := (123, [(0, .ref 3)], [], ((xu (xu (xu I 3 2 (I 3 3)) 3 6 (0 : Int32)) 3 7 (0 : Int32)), (xul L 3 5 (Int64.ofNat 0))))) h2 rfl ?_
  refine xe_go 0 (s' := (132, [(0, .ref 3)], [.ref 3], ((xu (xu (xu I 3 2 (I 3 3)) 3 6 (0 : Int32)) 3 7 (0 : Int32)), (xul L 3 5 (Int64.ofNat 0))))) rfl ?_
  refine xe_vir (n := 1) (f := fx_X7_readRun) rfl (Nat.le_of_ble_eq_true rfl) (List.mem_of_getElem? (i := 0) rfl) (Nat.le_of_ble_eq_true rfl) c1 ?_
  refine xe_bF 4 (A := (177, [(0, .ref 3)], [], (I1, L1))) (B := (146, [(0, .ref 3)], [], (I1, L1))) h3 rfl ?_
  refine xe_ar 6 (A := (159, [(0, .ref 3)], [.int (I1 2 (((I1 3 3)).toInt.toNat)), .ref 3], (I1, L1))) h4 rfl ?_
  refine xe_go 9 (s' := (177, [(0, .ref 3)], [], ((xu (xu (xu I1 3 7 (I1 2 (((I1 3 3)).toInt.toNat))) 3 4 (3 : Int32)) 3 3 ((I1 3 3) + (1 : Int32))), L1))) rfl ?_
  exact xe_end rfl rfl rfl
set_option maxRecDepth 100000 in
theorem pt_X7_step_5 {I : Nat → Nat → Int32} {L : Nat → Nat → Int64} (h1 : (xe_cmp .lt (I 3 3) (I 3 1)) = true) (h2 : (xe_cmp .lt (I 3 3) (I 1 1)) = false) : ∃ n, xr_X7_step n (45, [(0, .ref 3)], [], (I, L)) none ((xu (xu (xu (xu I 3 2 (I 3 3)) 3 6 (0 : Int32)) 3 7 (0 : Int32)) 3 4 (0 : Int32)), (xul L 3 5 (Int64.ofNat 0))) := by
  refine xe_bT 17 (A := (109, [(0, .ref 3)], [], ((xu (xu (xu I 3 2 (I 3 3)) 3 6 (0 : Int32)) 3 7 (0 : Int32)), (xul L 3 5 (Int64.ofNat 0))))) (B := (79, [(0, .ref 3)], [], ((xu (xu (xu I 3 2 (I 3 3)) 3 6 (0 : Int32)) 3 7 (0 : Int32)), (xul L 3 5 (Int64.ofNat 0))))) h1 rfl ?_
  refine xe_bF 5 (A := (131, [(0, .ref 3)], [], ((xu (xu (xu I 3 2 (I 3 3)) 3 6 (0 : Int32)) 3 7 (0 : Int32)), (xul L 3 5 (Int64.ofNat 0))))) (B := (123, [(0, .ref 3)], [], ((xu (xu (xu I 3 2 (I 3 3)) 3 6 (0 : Int32)) 3 7 (0 : Int32)), (xul L 3 5 (Int64.ofNat 0))))) h2 rfl ?_
  refine xe_go 3 (s' := (177, [(0, .ref 3)], [], ((xu (xu (xu (xu I 3 2 (I 3 3)) 3 6 (0 : Int32)) 3 7 (0 : Int32)) 3 4 (0 : Int32)), (xul L 3 5 (Int64.ofNat 0))))) rfl ?_
  exact xe_end rfl rfl rfl
set_option maxRecDepth 100000 in
theorem pt_X7_step_6 {I I1 : Nat → Nat → Int32} {L L1 : Nat → Nat → Int64} (h1 : (xe_cmp .lt (I 3 3) (I 3 1)) = false) (h2 : (xe_cmp .le (I 1 1) (I 3 1)) = true) (h3 : (xe_cmp .lt (I 3 3) (I 1 1)) = true) (c1 : fx_X7_readRun [.ref 3] ((xu (xu (xu I 3 2 (I 3 3)) 3 6 (0 : Int32)) 3 7 (0 : Int32)), (xul L 3 5 (Int64.ofNat 0))) none (I1, L1)) (h4 : (xe_cmp .ne (I1 3 3) (I1 3 2)) = true) : ∃ n, xr_X7_step n (45, [(0, .ref 3)], [], (I, L)) none (I1, L1) := by
  refine xe_bF 17 (A := (109, [(0, .ref 3)], [], ((xu (xu (xu I 3 2 (I 3 3)) 3 6 (0 : Int32)) 3 7 (0 : Int32)), (xul L 3 5 (Int64.ofNat 0))))) (B := (79, [(0, .ref 3)], [], ((xu (xu (xu I 3 2 (I 3 3)) 3 6 (0 : Int32)) 3 7 (0 : Int32)), (xul L 3 5 (Int64.ofNat 0))))) h1 rfl ?_
  refine xe_bT 5 (A := (109, [(0, .ref 3)], [], ((xu (xu (xu I 3 2 (I 3 3)) 3 6 (0 : Int32)) 3 7 (0 : Int32)), (xul L 3 5 (Int64.ofNat 0))))) (B := (93, [(0, .ref 3)], [], ((xu (xu (xu I 3 2 (I 3 3)) 3 6 (0 : Int32)) 3 7 (0 : Int32)), (xul L 3 5 (Int64.ofNat 0))))) h2 rfl ?_
  refine xe_bT 5 (A := (131, [(0, .ref 3)], [], ((xu (xu (xu I 3 2 (I 3 3)) 3 6 (0 : Int32)) 3 7 (0 : Int32)), (xul L 3 5 (Int64.ofNat 0))))) (B := (123, [(0, .ref 3)], [], ((xu (xu (xu I 3 2 (I 3 3)) 3 6 (0 : Int32)) 3 7 (0 : Int32)), (xul L 3 5 (Int64.ofNat 0))))) h3 rfl ?_
  refine xe_go 0 (s' := (132, [(0, .ref 3)], [.ref 3], ((xu (xu (xu I 3 2 (I 3 3)) 3 6 (0 : Int32)) 3 7 (0 : Int32)), (xul L 3 5 (Int64.ofNat 0))))) rfl ?_
  refine xe_vir (n := 1) (f := fx_X7_readRun) rfl (Nat.le_of_ble_eq_true rfl) (List.mem_of_getElem? (i := 0) rfl) (Nat.le_of_ble_eq_true rfl) c1 ?_
  refine xe_bT 4 (A := (177, [(0, .ref 3)], [], (I1, L1))) (B := (146, [(0, .ref 3)], [], (I1, L1))) h4 rfl ?_
  exact xe_end rfl rfl rfl
set_option maxRecDepth 100000 in
theorem pt_X7_step_7 {I I1 : Nat → Nat → Int32} {L L1 : Nat → Nat → Int64} (h1 : (xe_cmp .lt (I 3 3) (I 3 1)) = false) (h2 : (xe_cmp .le (I 1 1) (I 3 1)) = true) (h3 : (xe_cmp .lt (I 3 3) (I 1 1)) = true) (c1 : fx_X7_readRun [.ref 3] ((xu (xu (xu I 3 2 (I 3 3)) 3 6 (0 : Int32)) 3 7 (0 : Int32)), (xul L 3 5 (Int64.ofNat 0))) none (I1, L1)) (h4 : (xe_cmp .ne (I1 3 3) (I1 3 2)) = false) (h5 : xe_ib (I1 3 3) 940 = true) : ∃ n, xr_X7_step n (45, [(0, .ref 3)], [], (I, L)) none ((xu (xu (xu I1 3 7 (I1 2 (((I1 3 3)).toInt.toNat))) 3 4 (3 : Int32)) 3 3 ((I1 3 3) + (1 : Int32))), L1) := by
  refine xe_bF 17 (A := (109, [(0, .ref 3)], [], ((xu (xu (xu I 3 2 (I 3 3)) 3 6 (0 : Int32)) 3 7 (0 : Int32)), (xul L 3 5 (Int64.ofNat 0))))) (B := (79, [(0, .ref 3)], [], ((xu (xu (xu I 3 2 (I 3 3)) 3 6 (0 : Int32)) 3 7 (0 : Int32)), (xul L 3 5 (Int64.ofNat 0))))) h1 rfl ?_
  refine xe_bT 5 (A := (109, [(0, .ref 3)], [], ((xu (xu (xu I 3 2 (I 3 3)) 3 6 (0 : Int32)) 3 7 (0 : Int32)), (xul L 3 5 (Int64.ofNat 0))))) (B := (93, [(0, .ref 3)], [], ((xu (xu (xu I 3 2 (I 3 3)) 3 6 (0 : Int32)) 3 7 (0 : Int32)), (xul L 3 5 (Int64.ofNat 0))))) h2 rfl ?_
  refine xe_bT 5 (A := (131, [(0, .ref 3)], [], ((xu (xu (xu I 3 2 (I 3 3)) 3 6 (0 : Int32)) 3 7 (0 : Int32)), (xul L 3 5 (Int64.ofNat 0))))) (B := (123, [(0, .ref 3)], [], ((xu (xu (xu I 3 2 (I 3 3)) 3 6 (0 : Int32)) 3 7 (0 : Int32)), (xul L 3 5 (Int64.ofNat 0))))) h3 rfl ?_
  refine xe_go 0 (s' := (132, [(0, .ref 3)], [.ref 3], ((xu (xu (xu I 3 2 (I 3 3)) 3 6 (0 : Int32)) 3 7 (0 : Int32)), (xul L 3 5 (Int64.ofNat 0))))) rfl ?_
  refine xe_vir (n := 1) (f := fx_X7_readRun) rfl (Nat.le_of_ble_eq_true rfl) (List.mem_of_getElem? (i := 0) rfl) (Nat.le_of_ble_eq_true rfl) c1 ?_
  refine xe_bF 4 (A := (177, [(0, .ref 3)], [], (I1, L1))) (B := (146, [(0, .ref 3)], [], (I1, L1))) h4 rfl ?_
  refine xe_ar 6 (A := (159, [(0, .ref 3)], [.int (I1 2 (((I1 3 3)).toInt.toNat)), .ref 3], (I1, L1))) h5 rfl ?_
  refine xe_go 9 (s' := (177, [(0, .ref 3)], [], ((xu (xu (xu I1 3 7 (I1 2 (((I1 3 3)).toInt.toNat))) 3 4 (3 : Int32)) 3 3 ((I1 3 3) + (1 : Int32))), L1))) rfl ?_
  exact xe_end rfl rfl rfl
set_option maxRecDepth 100000 in
theorem pt_X7_step_8 {I : Nat → Nat → Int32} {L : Nat → Nat → Int64} (h1 : (xe_cmp .lt (I 3 3) (I 3 1)) = false) (h2 : (xe_cmp .le (I 1 1) (I 3 1)) = true) (h3 : (xe_cmp .lt (I 3 3) (I 1 1)) = false) : ∃ n, xr_X7_step n (45, [(0, .ref 3)], [], (I, L)) none ((xu (xu (xu (xu I 3 2 (I 3 3)) 3 6 (0 : Int32)) 3 7 (0 : Int32)) 3 4 (0 : Int32)), (xul L 3 5 (Int64.ofNat 0))) := by
  refine xe_bF 17 (A := (109, [(0, .ref 3)], [], ((xu (xu (xu I 3 2 (I 3 3)) 3 6 (0 : Int32)) 3 7 (0 : Int32)), (xul L 3 5 (Int64.ofNat 0))))) (B := (79, [(0, .ref 3)], [], ((xu (xu (xu I 3 2 (I 3 3)) 3 6 (0 : Int32)) 3 7 (0 : Int32)), (xul L 3 5 (Int64.ofNat 0))))) h1 rfl ?_
  refine xe_bT 5 (A := (109, [(0, .ref 3)], [], ((xu (xu (xu I 3 2 (I 3 3)) 3 6 (0 : Int32)) 3 7 (0 : Int32)), (xul L 3 5 (Int64.ofNat 0))))) (B := (93, [(0, .ref 3)], [], ((xu (xu (xu I 3 2 (I 3 3)) 3 6 (0 : Int32)) 3 7 (0 : Int32)), (xul L 3 5 (Int64.ofNat 0))))) h2 rfl ?_
  refine xe_bF 5 (A := (131, [(0, .ref 3)], [], ((xu (xu (xu I 3 2 (I 3 3)) 3 6 (0 : Int32)) 3 7 (0 : Int32)), (xul L 3 5 (Int64.ofNat 0))))) (B := (123, [(0, .ref 3)], [], ((xu (xu (xu I 3 2 (I 3 3)) 3 6 (0 : Int32)) 3 7 (0 : Int32)), (xul L 3 5 (Int64.ofNat 0))))) h3 rfl ?_
  refine xe_go 3 (s' := (177, [(0, .ref 3)], [], ((xu (xu (xu (xu I 3 2 (I 3 3)) 3 6 (0 : Int32)) 3 7 (0 : Int32)) 3 4 (0 : Int32)), (xul L 3 5 (Int64.ofNat 0))))) rfl ?_
  exact xe_end rfl rfl rfl
set_option maxRecDepth 100000 in
theorem pt_X7_step_9 {I : Nat → Nat → Int32} {L : Nat → Nat → Int64} (h1 : (xe_cmp .lt (I 3 3) (I 3 1)) = false) (h2 : (xe_cmp .le (I 1 1) (I 3 1)) = false) : ∃ n, xr_X7_step n (45, [(0, .ref 3)], [], (I, L)) none ((xu (xu (xu (xu (xu I 3 2 (I 3 3)) 3 6 (0 : Int32)) 3 7 (0 : Int32)) 3 2 (I 3 1)) 3 4 (4 : Int32)), (xul L 3 5 (Int64.ofNat 0))) := by
  refine xe_bF 17 (A := (109, [(0, .ref 3)], [], ((xu (xu (xu I 3 2 (I 3 3)) 3 6 (0 : Int32)) 3 7 (0 : Int32)), (xul L 3 5 (Int64.ofNat 0))))) (B := (79, [(0, .ref 3)], [], ((xu (xu (xu I 3 2 (I 3 3)) 3 6 (0 : Int32)) 3 7 (0 : Int32)), (xul L 3 5 (Int64.ofNat 0))))) h1 rfl ?_
  refine xe_bF 5 (A := (109, [(0, .ref 3)], [], ((xu (xu (xu I 3 2 (I 3 3)) 3 6 (0 : Int32)) 3 7 (0 : Int32)), (xul L 3 5 (Int64.ofNat 0))))) (B := (93, [(0, .ref 3)], [], ((xu (xu (xu I 3 2 (I 3 3)) 3 6 (0 : Int32)) 3 7 (0 : Int32)), (xul L 3 5 (Int64.ofNat 0))))) h2 rfl ?_
  refine xe_go 7 (s' := (177, [(0, .ref 3)], [], ((xu (xu (xu (xu (xu I 3 2 (I 3 3)) 3 6 (0 : Int32)) 3 7 (0 : Int32)) 3 2 (I 3 1)) 3 4 (4 : Int32)), (xul L 3 5 (Int64.ofNat 0))))) rfl ?_
  exact xe_end rfl rfl rfl
def xi_X7_open : List (Nat × Nat × Instr) := [(0, 1, .aload_n 0), (1, 1, .iload_n 1), (2, 3, .putfield 15), (5, 1, .aload_n 0), (6, 1, .iconst 0), (7, 3, .putfield 19), (10, 1, .aload_n 0), (11, 1, .iconst 0), (12, 3, .putfield 22), (15, 1, .aload_n 0), (16, 1, .iconst 0), (17, 3, .putfield 25), (20, 1, .aload_n 0), (21, 3, .invokevirtual 28), (24, 1, .return_)]
def xg_X7_open : zf_ft := []
def xp_X7_open : zf_ft := [(15, 5, 1, .inl ((-2147483648), 2147483647)), (19, 5, 3, .inl ((-2147483648), 2147483647)), (22, 5, 9, .inl ((-2147483648), 2147483647)), (25, 5, 10, .inl ((-2147483648), 2147483647))]
def xv_X7_open : List (Nat × Nat × xe_F) := [(28, 1, fx_X7_step)]
def xt_X7_open : List (Nat × Nat × xe_F) := []
abbrev xr_X7_open := xe_run xGT xSC xRF 2 xg_X7_open xp_X7_open [] [] xv_X7_open xt_X7_open xi_X7_open
def fx_X7_open : xe_F := fun us hp v hp' => (us.map fun v => v.category).sum ≤ 2 ∧ xe_rt none v ∧ (∃ ar, us = ar ++ [.ref 3]) ∧ ∃ n, xr_X7_open n (0, xe_ag 0 us.reverse, [], hp) v hp'
theorem mk_X7_open {a1 : Int32} {hp hp' : xe_H} {v : Option Value} (hr : xe_rt none v) (h : ∃ n, xr_X7_open n (0, [(0, .ref 3), (1, .int a1)], [], hp) v hp') : fx_X7_open [.int a1, .ref 3] hp v hp' := ⟨Nat.le_of_ble_eq_true rfl, hr, ⟨[.int a1], rfl⟩, h⟩
theorem hx_X7_open : ∀ us hp v hp', fx_X7_open us hp v hp' → (us.map fun v => v.category).sum ≤ 2 ∧ xe_rt none v ∧ ∃ n, xr_X7_open n (0, xe_ag 0 us.reverse, [], hp) v hp' := fun us hp v hp' h => ⟨h.1, h.2.1, h.2.2.2⟩
theorem fr_X7_open : ∀ us hp v hp', fx_X7_open us hp v hp' → ∃ ar, us = ar ++ [.ref 3] := fun us hp v hp' h => h.2.2.1
set_option maxRecDepth 100000 in
set_option maxHeartbeats 4000000 in
theorem kx_X7_open (l : Launch) (D : va_G) (k : Nat → ClassId) (B0 : Nat) (ad : Nat → Nat) (al sw : Nat) : xe_Con l yX7_open (zw yX7_open cX7_open 2 none) ({ frames := 2, cells := 0, slots := 0, locals := 44 }) D k ad (zEx B0 ad al sw) xGT xSC xRF fx_X7_open := by
  have hEx := zEx_ok B0 ad al sw
  refine xe_mk (cc := cX7_open) (nL := 2) (ret := none) (fg := xg_X7_open) (fp := xp_X7_open) (sg := []) (lc := []) (cv := xv_X7_open) (cs := xt_X7_open) (ins := xi_X7_open) (by decide) rfl hEx (by decide +kernel) hx_X7_open ?_
  intro p e s m args below meth c Q Sg w0 A θ S hK hE hAB hA hth
  refine ⟨?_, ?_, ?_, ?_, ?_, ?_⟩
  · exact zf_an
  · exact zf_ac ((fun H locs ws a q0 fs v rest pc ls hP hD hS he hl hv hdg kk => by obtain ⟨x, rfl, h1, h2⟩ := hv; exact va_put (D := D) (ci := 5) (v := .int x) (ty := .int) (C := RX7) (T := TX7) (N := 11) (own := RX7) S.1 S.2.1 S.2.2.2.2 (zg_in inW_X7) tyX7 tyX7_ok nmX7 S.2.2.2.1 hK hP hD hS q0 he rfl 1 (by decide) (S.2.2.2.2 (.fieldLink RX7 15 "RungMoney$Reader" "most" "I") (List.mem_cons_of_mem _ zw_151)) (fun _ h9 => h9) rfl (by decide +kernel) rfl rfl hl hdg kk)) (zf_ac ((fun H locs ws a q0 fs v rest pc ls hP hD hS he hl hv hdg kk => by obtain ⟨x, rfl, h1, h2⟩ := hv; exact va_put (D := D) (ci := 5) (v := .int x) (ty := .int) (C := RX7) (T := TX7) (N := 11) (own := RX7) S.1 S.2.1 S.2.2.2.2 (zg_in inW_X7) tyX7 tyX7_ok nmX7 S.2.2.2.1 hK hP hD hS q0 he rfl 3 (by decide) (S.2.2.2.2 (.fieldLink RX7 19 "RungMoney$Reader" "next" "I") (List.mem_cons_of_mem _ zw_153)) (fun _ h9 => h9) rfl (by decide +kernel) rfl rfl hl hdg kk)) (zf_ac ((fun H locs ws a q0 fs v rest pc ls hP hD hS he hl hv hdg kk => by obtain ⟨x, rfl, h1, h2⟩ := hv; exact va_put (D := D) (ci := 5) (v := .int x) (ty := .int) (C := RX7) (T := TX7) (N := 11) (own := RX7) S.1 S.2.1 S.2.2.2.2 (zg_in inW_X7) tyX7 tyX7_ok nmX7 S.2.2.2.1 hK hP hD hS q0 he rfl 9 (by decide) (S.2.2.2.2 (.fieldLink RX7 22 "RungMoney$Reader" "fault" "I") (List.mem_cons_of_mem _ zw_166)) (fun _ h9 => h9) rfl (by decide +kernel) rfl rfl hl hdg kk)) (zf_ac ((fun H locs ws a q0 fs v rest pc ls hP hD hS he hl hv hdg kk => by obtain ⟨x, rfl, h1, h2⟩ := hv; exact va_put (D := D) (ci := 5) (v := .int x) (ty := .int) (C := RX7) (T := TX7) (N := 11) (own := RX7) S.1 S.2.1 S.2.2.2.2 (zg_in inW_X7) tyX7 tyX7_ok nmX7 S.2.2.2.1 hK hP hD hS q0 he rfl 10 (by decide) (S.2.2.2.2 (.fieldLink RX7 25 "RungMoney$Reader" "place" "I") (List.mem_cons_of_mem _ zw_168)) (fun _ h9 => h9) rfl (by decide +kernel) rfl rfl hl hdg kk)) zf_an)))
  · exact xe_n2
  · exact xe_n3
  · exact xe_a4 (xe_crV S hEx hE hAB hA hK hth (kx_X7_step l D k B0 ad al sw) (cwV 0 S.2.2.2.2 (zg_V zw_493 zw_494 zw_495 zw_97 zw_496) rfl rfl rfl (by decide +kernel) ⟨(Nat.le_of_ble_eq_true rfl), (Nat.le_of_ble_eq_true rfl)⟩) ⟨(Nat.le_of_ble_eq_true rfl), (Nat.le_of_ble_eq_true rfl)⟩ 5 rfl rfl 3 (by decide +kernel) fr_X7_step) xe_n4
  · exact xe_n4
set_option maxRecDepth 100000 in
theorem pt_X7_open_0 {a1 : Int32} {I I1 : Nat → Nat → Int32} {L L1 : Nat → Nat → Int64} (c1 : fx_X7_step [.ref 3] ((xu (xu (xu (xu I 3 1 a1) 3 3 (0 : Int32)) 3 9 (0 : Int32)) 3 10 (0 : Int32)), L) none (I1, L1)) : ∃ n, xr_X7_open n (0, [(0, .ref 3), (1, .int a1)], [], (I, L)) none (I1, L1) := by
  refine xe_go 12 (s' := (21, [(0, .ref 3), (1, .int a1)], [.ref 3], ((xu (xu (xu (xu I 3 1 a1) 3 3 (0 : Int32)) 3 9 (0 : Int32)) 3 10 (0 : Int32)), L))) rfl ?_
  refine xe_vir (n := 1) (f := fx_X7_step) rfl (Nat.le_of_ble_eq_true rfl) (List.mem_of_getElem? (i := 0) rfl) (Nat.le_of_ble_eq_true rfl) c1 ?_
  exact xe_end rfl rfl rfl
def xi_X7_isSign : List (Nat × Nat × Instr) := [(0, 1, .aload_n 0), (1, 3, .getfield 57), (4, 1, .iconst 3), (5, 3, .if_icmp .ne 15), (8, 1, .aload_n 0), (9, 3, .getfield 54), (12, 1, .iload_n 1), (13, 3, .if_icmp .ne 7), (16, 1, .iconst 1), (17, 3, .goto 4), (20, 1, .iconst 0), (21, 1, .ireturn)]
def xg_X7_isSign : zf_ft := [(57, 5, 4, .inl (0, 0)), (54, 5, 7, .inl (0, 0))]
def xp_X7_isSign : zf_ft := []
def xv_X7_isSign : List (Nat × Nat × xe_F) := []
def xt_X7_isSign : List (Nat × Nat × xe_F) := []
abbrev xr_X7_isSign := xe_run xGT xSC xRF 2 xg_X7_isSign xp_X7_isSign [] [] xv_X7_isSign xt_X7_isSign xi_X7_isSign
def fx_X7_isSign : xe_F := fun us hp v hp' => (us.map fun v => v.category).sum ≤ 2 ∧ xe_rt (some .boolean) v ∧ (∃ ar, us = ar ++ [.ref 3]) ∧ ∃ n, xr_X7_isSign n (0, xe_ag 0 us.reverse, [], hp) v hp'
theorem mk_X7_isSign {a1 : Int32} {hp hp' : xe_H} {v : Option Value} (hr : xe_rt (some .boolean) v) (h : ∃ n, xr_X7_isSign n (0, [(0, .ref 3), (1, .int a1)], [], hp) v hp') : fx_X7_isSign [.int a1, .ref 3] hp v hp' := ⟨Nat.le_of_ble_eq_true rfl, hr, ⟨[.int a1], rfl⟩, h⟩
theorem hx_X7_isSign : ∀ us hp v hp', fx_X7_isSign us hp v hp' → (us.map fun v => v.category).sum ≤ 2 ∧ xe_rt (some .boolean) v ∧ ∃ n, xr_X7_isSign n (0, xe_ag 0 us.reverse, [], hp) v hp' := fun us hp v hp' h => ⟨h.1, h.2.1, h.2.2.2⟩
theorem fr_X7_isSign : ∀ us hp v hp', fx_X7_isSign us hp v hp' → ∃ ar, us = ar ++ [.ref 3] := fun us hp v hp' h => h.2.2.1
set_option maxRecDepth 100000 in
set_option maxHeartbeats 4000000 in
theorem kx_X7_isSign (l : Launch) (D : va_G) (k : Nat → ClassId) (B0 : Nat) (ad : Nat → Nat) (al sw : Nat) : xe_Con l yX7_isSign (zw yX7_isSign cX7_isSign 2 (some .boolean)) ({ frames := 0, cells := 0, slots := 0, locals := 0 }) D k ad (zEx B0 ad al sw) xGT xSC xRF fx_X7_isSign := by
  have hEx := zEx_ok B0 ad al sw
  refine xe_mk (cc := cX7_isSign) (nL := 2) (ret := (some .boolean)) (fg := xg_X7_isSign) (fp := xp_X7_isSign) (sg := []) (lc := []) (cv := xv_X7_isSign) (cs := xt_X7_isSign) (ins := xi_X7_isSign) (by decide) rfl hEx (by decide +kernel) hx_X7_isSign ?_
  intro p e s m args below meth c Q Sg w0 A θ S hK hE hAB hA hth
  refine ⟨?_, ?_, ?_, ?_, ?_, ?_⟩
  · exact zf_ac ((fun H locs ws a q0 fs v rest pc ls hP he hv hdg kk => va_get (D := D) (ci := 5) (C := RX7) (T := TX7) (N := 11) (own := RX7) S.1 S.2.1 S.2.2.2.2 (zg_in inW_X7) S.2.2.2.1 hK hP q0 he rfl 4 (by decide) (S.2.2.2.2 (.fieldLink RX7 57 "RungMoney$Reader" "kind" "I") (List.mem_cons_of_mem _ zw_156)) (fun _ h9 => h9) hv hdg kk)) (zf_ac ((fun H locs ws a q0 fs v rest pc ls hP he hv hdg kk => va_get (D := D) (ci := 5) (C := RX7) (T := TX7) (N := 11) (own := RX7) S.1 S.2.1 S.2.2.2.2 (zg_in inW_X7) S.2.2.2.1 hK hP q0 he rfl 7 (by decide) (S.2.2.2.2 (.fieldLink RX7 54 "RungMoney$Reader" "sign" "I") (List.mem_cons_of_mem _ zw_161)) (fun _ h9 => h9) hv hdg kk)) zf_an)
  · exact zf_an
  · exact xe_n2
  · exact xe_n3
  · exact xe_n4
  · exact xe_n4
set_option maxRecDepth 100000 in
theorem pt_X7_isSign_0 {a1 : Int32} {I : Nat → Nat → Int32} {L : Nat → Nat → Int64} (h1 : (xe_cmp .ne (I 3 4) (3 : Int32)) = true) : ∃ n, xr_X7_isSign n (0, [(0, .ref 3), (1, .int a1)], [], (I, L)) (some (.int (0 : Int32))) (I, L) := by
  refine xe_bT 3 (A := (20, [(0, .ref 3), (1, .int a1)], [], (I, L))) (B := (8, [(0, .ref 3), (1, .int a1)], [], (I, L))) h1 rfl ?_
  refine xe_go 0 (s' := (21, [(0, .ref 3), (1, .int a1)], [.int (0 : Int32)], (I, L))) rfl ?_
  exact xe_end rfl rfl rfl
set_option maxRecDepth 100000 in
theorem pt_X7_isSign_1 {a1 : Int32} {I : Nat → Nat → Int32} {L : Nat → Nat → Int64} (h1 : (xe_cmp .ne (I 3 4) (3 : Int32)) = false) (h2 : (xe_cmp .ne (I 3 7) a1) = true) : ∃ n, xr_X7_isSign n (0, [(0, .ref 3), (1, .int a1)], [], (I, L)) (some (.int (0 : Int32))) (I, L) := by
  refine xe_bF 3 (A := (20, [(0, .ref 3), (1, .int a1)], [], (I, L))) (B := (8, [(0, .ref 3), (1, .int a1)], [], (I, L))) h1 rfl ?_
  refine xe_bT 3 (A := (20, [(0, .ref 3), (1, .int a1)], [], (I, L))) (B := (16, [(0, .ref 3), (1, .int a1)], [], (I, L))) h2 rfl ?_
  refine xe_go 0 (s' := (21, [(0, .ref 3), (1, .int a1)], [.int (0 : Int32)], (I, L))) rfl ?_
  exact xe_end rfl rfl rfl
set_option maxRecDepth 100000 in
theorem pt_X7_isSign_2 {a1 : Int32} {I : Nat → Nat → Int32} {L : Nat → Nat → Int64} (h1 : (xe_cmp .ne (I 3 4) (3 : Int32)) = false) (h2 : (xe_cmp .ne (I 3 7) a1) = false) : ∃ n, xr_X7_isSign n (0, [(0, .ref 3), (1, .int a1)], [], (I, L)) (some (.int (1 : Int32))) (I, L) := by
  refine xe_bF 3 (A := (20, [(0, .ref 3), (1, .int a1)], [], (I, L))) (B := (8, [(0, .ref 3), (1, .int a1)], [], (I, L))) h1 rfl ?_
  refine xe_bF 3 (A := (20, [(0, .ref 3), (1, .int a1)], [], (I, L))) (B := (16, [(0, .ref 3), (1, .int a1)], [], (I, L))) h2 rfl ?_
  refine xe_go 1 (s' := (21, [(0, .ref 3), (1, .int a1)], [.int (1 : Int32)], (I, L))) rfl ?_
  exact xe_end rfl rfl rfl
def xi_X7_takeSign : List (Nat × Nat × Instr) := [(0, 1, .aload_n 0), (1, 1, .iload_n 1), (2, 3, .invokevirtual 71), (5, 3, .ifCond .ne 9), (8, 1, .aload_n 0), (9, 1, .iconst 1), (10, 3, .invokevirtual 74), (13, 1, .ireturn), (14, 1, .aload_n 0), (15, 3, .invokevirtual 28), (18, 1, .iconst 1), (19, 1, .ireturn)]
def xg_X7_takeSign : zf_ft := []
def xp_X7_takeSign : zf_ft := []
def xv_X7_takeSign : List (Nat × Nat × xe_F) := [(71, 2, fx_X7_isSign), (74, 2, fx_X7_fail), (28, 1, fx_X7_step)]
def xt_X7_takeSign : List (Nat × Nat × xe_F) := []
abbrev xr_X7_takeSign := xe_run xGT xSC xRF 2 xg_X7_takeSign xp_X7_takeSign [] [] xv_X7_takeSign xt_X7_takeSign xi_X7_takeSign
def fx_X7_takeSign : xe_F := fun us hp v hp' => (us.map fun v => v.category).sum ≤ 2 ∧ xe_rt (some .boolean) v ∧ (∃ ar, us = ar ++ [.ref 3]) ∧ ∃ n, xr_X7_takeSign n (0, xe_ag 0 us.reverse, [], hp) v hp'
theorem mk_X7_takeSign {a1 : Int32} {hp hp' : xe_H} {v : Option Value} (hr : xe_rt (some .boolean) v) (h : ∃ n, xr_X7_takeSign n (0, [(0, .ref 3), (1, .int a1)], [], hp) v hp') : fx_X7_takeSign [.int a1, .ref 3] hp v hp' := ⟨Nat.le_of_ble_eq_true rfl, hr, ⟨[.int a1], rfl⟩, h⟩
theorem hx_X7_takeSign : ∀ us hp v hp', fx_X7_takeSign us hp v hp' → (us.map fun v => v.category).sum ≤ 2 ∧ xe_rt (some .boolean) v ∧ ∃ n, xr_X7_takeSign n (0, xe_ag 0 us.reverse, [], hp) v hp' := fun us hp v hp' h => ⟨h.1, h.2.1, h.2.2.2⟩
theorem fr_X7_takeSign : ∀ us hp v hp', fx_X7_takeSign us hp v hp' → ∃ ar, us = ar ++ [.ref 3] := fun us hp v hp' h => h.2.2.1
set_option maxRecDepth 100000 in
set_option maxHeartbeats 4000000 in
theorem kx_X7_takeSign (l : Launch) (D : va_G) (k : Nat → ClassId) (B0 : Nat) (ad : Nat → Nat) (al sw : Nat) : xe_Con l yX7_takeSign (zw yX7_takeSign cX7_takeSign 2 (some .boolean)) ({ frames := 2, cells := 0, slots := 0, locals := 44 }) D k ad (zEx B0 ad al sw) xGT xSC xRF fx_X7_takeSign := by
  have hEx := zEx_ok B0 ad al sw
  refine xe_mk (cc := cX7_takeSign) (nL := 2) (ret := (some .boolean)) (fg := xg_X7_takeSign) (fp := xp_X7_takeSign) (sg := []) (lc := []) (cv := xv_X7_takeSign) (cs := xt_X7_takeSign) (ins := xi_X7_takeSign) (by decide) rfl hEx (by decide +kernel) hx_X7_takeSign ?_
  intro p e s m args below meth c Q Sg w0 A θ S hK hE hAB hA hth
  refine ⟨?_, ?_, ?_, ?_, ?_, ?_⟩
  · exact zf_an
  · exact zf_an
  · exact xe_n2
  · exact xe_n3
  · exact xe_a4 (xe_crV S hEx hE hAB hA hK hth (kx_X7_isSign l D k B0 ad al sw) (cwV 1 S.2.2.2.2 (zg_V zw_604 zw_605 zw_606 zw_97 zw_607) rfl rfl rfl (by decide +kernel) ⟨(Nat.le_of_ble_eq_true rfl), (Nat.le_of_ble_eq_true rfl)⟩) ⟨(Nat.le_of_ble_eq_true rfl), (Nat.le_of_ble_eq_true rfl)⟩ 5 rfl rfl 3 (by decide +kernel) fr_X7_isSign) (xe_a4 (xe_crV S hEx hE hAB hA hK hth (kx_X7_fail l D k B0 ad al sw) (cwV 1 S.2.2.2.2 (zg_V zw_558 zw_526 zw_527 zw_97 zw_528) rfl rfl rfl (by decide +kernel) ⟨(Nat.le_of_ble_eq_true rfl), (Nat.le_of_ble_eq_true rfl)⟩) ⟨(Nat.le_of_ble_eq_true rfl), (Nat.le_of_ble_eq_true rfl)⟩ 5 rfl rfl 3 (by decide +kernel) fr_X7_fail) (xe_a4 (xe_crV S hEx hE hAB hA hK hth (kx_X7_step l D k B0 ad al sw) (cwV 0 S.2.2.2.2 (zg_V zw_493 zw_494 zw_495 zw_97 zw_496) rfl rfl rfl (by decide +kernel) ⟨(Nat.le_of_ble_eq_true rfl), (Nat.le_of_ble_eq_true rfl)⟩) ⟨(Nat.le_of_ble_eq_true rfl), (Nat.le_of_ble_eq_true rfl)⟩ 5 rfl rfl 3 (by decide +kernel) fr_X7_step) xe_n4))
  · exact xe_n4
set_option maxRecDepth 100000 in
theorem pt_X7_takeSign_0 {a1 : Int32} {I I1 I2 : Nat → Nat → Int32} {L L1 L2 : Nat → Nat → Int64} (c1 : fx_X7_isSign [.int a1, .ref 3] (I, L) (some (.int 1)) (I1, L1)) (c2 : fx_X7_step [.ref 3] (I1, L1) none (I2, L2)) : ∃ n, xr_X7_takeSign n (0, [(0, .ref 3), (1, .int a1)], [], (I, L)) (some (.int (1 : Int32))) (I2, L2) := by
  refine xe_go 1 (s' := (2, [(0, .ref 3), (1, .int a1)], [.int a1, .ref 3], (I, L))) rfl ?_
  refine xe_vir (n := 2) (f := fx_X7_isSign) rfl (Nat.le_of_ble_eq_true rfl) (List.mem_of_getElem? (i := 0) rfl) (Nat.le_of_ble_eq_true rfl) c1 ?_
  refine xe_go 1 (s' := (15, [(0, .ref 3), (1, .int a1)], [.ref 3], (I1, L1))) rfl ?_
  refine xe_vir (n := 1) (f := fx_X7_step) rfl (Nat.le_of_ble_eq_true rfl) (List.mem_of_getElem? (i := 2) rfl) (Nat.le_of_ble_eq_true rfl) c2 ?_
  refine xe_go 0 (s' := (19, [(0, .ref 3), (1, .int a1)], [.int (1 : Int32)], (I2, L2))) rfl ?_
  exact xe_end rfl rfl rfl
set_option maxRecDepth 100000 in
theorem pt_X7_takeSign_1 {a1 : Int32} {I I1 I2 : Nat → Nat → Int32} {L L1 L2 : Nat → Nat → Int64} (c1 : fx_X7_isSign [.int a1, .ref 3] (I, L) (some (.int 0)) (I1, L1)) (c2 : fx_X7_fail [.int (1 : Int32), .ref 3] (I1, L1) (some (.int 0)) (I2, L2)) : ∃ n, xr_X7_takeSign n (0, [(0, .ref 3), (1, .int a1)], [], (I, L)) (some (.int 0)) (I2, L2) := by
  refine xe_go 1 (s' := (2, [(0, .ref 3), (1, .int a1)], [.int a1, .ref 3], (I, L))) rfl ?_
  refine xe_vir (n := 2) (f := fx_X7_isSign) rfl (Nat.le_of_ble_eq_true rfl) (List.mem_of_getElem? (i := 0) rfl) (Nat.le_of_ble_eq_true rfl) c1 ?_
  refine xe_go 2 (s' := (10, [(0, .ref 3), (1, .int a1)], [.int (1 : Int32), .ref 3], (I1, L1))) rfl ?_
  refine xe_vir (n := 2) (f := fx_X7_fail) rfl (Nat.le_of_ble_eq_true rfl) (List.mem_of_getElem? (i := 1) rfl) (Nat.le_of_ble_eq_true rfl) c2 ?_
  exact xe_end rfl rfl rfl
def xi_X7_takeNumber : List (Nat × Nat × Instr) := [(0, 1, .aload_n 0), (1, 3, .getfield 57), (4, 1, .iconst 2), (5, 3, .if_icmp .eq 9), (8, 1, .aload_n 0), (9, 1, .iconst 1), (10, 3, .invokevirtual 74), (13, 1, .ireturn), (14, 1, .aload_n 0), (15, 3, .getfield 51), (18, 1, .iload_n 1), (19, 3, .if_icmp .lt 11), (22, 1, .aload_n 0), (23, 3, .getfield 51), (26, 1, .iload_n 2), (27, 3, .if_icmp .le 9), (30, 1, .aload_n 0), (31, 1, .iconst 2), (32, 3, .invokevirtual 74), (35, 1, .ireturn), (36, 1, .aload_n 0), (37, 1, .aload_n 0), (38, 3, .getfield 51), (41, 3, .putfield 77), (44, 1, .aload_n 0), (45, 3, .invokevirtual 28), (48, 1, .iconst 1), (49, 1, .ireturn)]
def xg_X7_takeNumber : zf_ft := [(57, 5, 4, .inl (0, 0)), (51, 5, 6, .inl (0, 0))]
def xp_X7_takeNumber : zf_ft := [(77, 5, 8, .inl ((-2147483648), 2147483647))]
def xv_X7_takeNumber : List (Nat × Nat × xe_F) := [(74, 2, fx_X7_fail), (28, 1, fx_X7_step)]
def xt_X7_takeNumber : List (Nat × Nat × xe_F) := []
abbrev xr_X7_takeNumber := xe_run xGT xSC xRF 3 xg_X7_takeNumber xp_X7_takeNumber [] [] xv_X7_takeNumber xt_X7_takeNumber xi_X7_takeNumber
def fx_X7_takeNumber : xe_F := fun us hp v hp' => (us.map fun v => v.category).sum ≤ 3 ∧ xe_rt (some .boolean) v ∧ (∃ ar, us = ar ++ [.ref 3]) ∧ ∃ n, xr_X7_takeNumber n (0, xe_ag 0 us.reverse, [], hp) v hp'
theorem mk_X7_takeNumber {a1 : Int32} {a2 : Int32} {hp hp' : xe_H} {v : Option Value} (hr : xe_rt (some .boolean) v) (h : ∃ n, xr_X7_takeNumber n (0, [(0, .ref 3), (1, .int a1), (2, .int a2)], [], hp) v hp') : fx_X7_takeNumber [.int a2, .int a1, .ref 3] hp v hp' := ⟨Nat.le_of_ble_eq_true rfl, hr, ⟨[.int a2, .int a1], rfl⟩, h⟩
theorem hx_X7_takeNumber : ∀ us hp v hp', fx_X7_takeNumber us hp v hp' → (us.map fun v => v.category).sum ≤ 3 ∧ xe_rt (some .boolean) v ∧ ∃ n, xr_X7_takeNumber n (0, xe_ag 0 us.reverse, [], hp) v hp' := fun us hp v hp' h => ⟨h.1, h.2.1, h.2.2.2⟩
theorem fr_X7_takeNumber : ∀ us hp v hp', fx_X7_takeNumber us hp v hp' → ∃ ar, us = ar ++ [.ref 3] := fun us hp v hp' h => h.2.2.1
set_option maxRecDepth 100000 in
set_option maxHeartbeats 4000000 in
theorem kx_X7_takeNumber (l : Launch) (D : va_G) (k : Nat → ClassId) (B0 : Nat) (ad : Nat → Nat) (al sw : Nat) : xe_Con l yX7_takeNumber (zw yX7_takeNumber cX7_takeNumber 3 (some .boolean)) ({ frames := 2, cells := 0, slots := 0, locals := 44 }) D k ad (zEx B0 ad al sw) xGT xSC xRF fx_X7_takeNumber := by
  have hEx := zEx_ok B0 ad al sw
  refine xe_mk (cc := cX7_takeNumber) (nL := 3) (ret := (some .boolean)) (fg := xg_X7_takeNumber) (fp := xp_X7_takeNumber) (sg := []) (lc := []) (cv := xv_X7_takeNumber) (cs := xt_X7_takeNumber) (ins := xi_X7_takeNumber) (by decide) rfl hEx (by decide +kernel) hx_X7_takeNumber ?_
  intro p e s m args below meth c Q Sg w0 A θ S hK hE hAB hA hth
  refine ⟨?_, ?_, ?_, ?_, ?_, ?_⟩
  · exact zf_ac ((fun H locs ws a q0 fs v rest pc ls hP he hv hdg kk => va_get (D := D) (ci := 5) (C := RX7) (T := TX7) (N := 11) (own := RX7) S.1 S.2.1 S.2.2.2.2 (zg_in inW_X7) S.2.2.2.1 hK hP q0 he rfl 4 (by decide) (S.2.2.2.2 (.fieldLink RX7 57 "RungMoney$Reader" "kind" "I") (List.mem_cons_of_mem _ zw_156)) (fun _ h9 => h9) hv hdg kk)) (zf_ac ((fun H locs ws a q0 fs v rest pc ls hP he hv hdg kk => va_get (D := D) (ci := 5) (C := RX7) (T := TX7) (N := 11) (own := RX7) S.1 S.2.1 S.2.2.2.2 (zg_in inW_X7) S.2.2.2.1 hK hP q0 he rfl 6 (by decide) (S.2.2.2.2 (.fieldLink RX7 51 "RungMoney$Reader" "number" "I") (List.mem_cons_of_mem _ zw_160)) (fun _ h9 => h9) hv hdg kk)) zf_an)
  · exact zf_ac ((fun H locs ws a q0 fs v rest pc ls hP hD hS he hl hv hdg kk => by obtain ⟨x, rfl, h1, h2⟩ := hv; exact va_put (D := D) (ci := 5) (v := .int x) (ty := .int) (C := RX7) (T := TX7) (N := 11) (own := RX7) S.1 S.2.1 S.2.2.2.2 (zg_in inW_X7) tyX7 tyX7_ok nmX7 S.2.2.2.1 hK hP hD hS q0 he rfl 8 (by decide) (S.2.2.2.2 (.fieldLink RX7 77 "RungMoney$Reader" "taken" "I") (List.mem_cons_of_mem _ zw_165)) (fun _ h9 => h9) rfl (by decide +kernel) rfl rfl hl hdg kk)) zf_an
  · exact xe_n2
  · exact xe_n3
  · exact xe_a4 (xe_crV S hEx hE hAB hA hK hth (kx_X7_fail l D k B0 ad al sw) (cwV 1 S.2.2.2.2 (zg_V zw_558 zw_526 zw_527 zw_97 zw_528) rfl rfl rfl (by decide +kernel) ⟨(Nat.le_of_ble_eq_true rfl), (Nat.le_of_ble_eq_true rfl)⟩) ⟨(Nat.le_of_ble_eq_true rfl), (Nat.le_of_ble_eq_true rfl)⟩ 5 rfl rfl 3 (by decide +kernel) fr_X7_fail) (xe_a4 (xe_crV S hEx hE hAB hA hK hth (kx_X7_step l D k B0 ad al sw) (cwV 0 S.2.2.2.2 (zg_V zw_493 zw_494 zw_495 zw_97 zw_496) rfl rfl rfl (by decide +kernel) ⟨(Nat.le_of_ble_eq_true rfl), (Nat.le_of_ble_eq_true rfl)⟩) ⟨(Nat.le_of_ble_eq_true rfl), (Nat.le_of_ble_eq_true rfl)⟩ 5 rfl rfl 3 (by decide +kernel) fr_X7_step) xe_n4)
  · exact xe_n4
set_option maxRecDepth 100000 in
theorem pt_X7_takeNumber_0 {a1 a2 : Int32} {I I1 : Nat → Nat → Int32} {L L1 : Nat → Nat → Int64} (h1 : (xe_cmp .eq (I 3 4) (2 : Int32)) = true) (h2 : (xe_cmp .lt (I 3 6) a1) = true) (c1 : fx_X7_fail [.int (2 : Int32), .ref 3] (I, L) (some (.int 0)) (I1, L1)) : ∃ n, xr_X7_takeNumber n (0, [(0, .ref 3), (1, .int a1), (2, .int a2)], [], (I, L)) (some (.int 0)) (I1, L1) := by
  refine xe_bT 3 (A := (14, [(0, .ref 3), (1, .int a1), (2, .int a2)], [], (I, L))) (B := (8, [(0, .ref 3), (1, .int a1), (2, .int a2)], [], (I, L))) h1 rfl ?_
  refine xe_bT 3 (A := (30, [(0, .ref 3), (1, .int a1), (2, .int a2)], [], (I, L))) (B := (22, [(0, .ref 3), (1, .int a1), (2, .int a2)], [], (I, L))) h2 rfl ?_
  refine xe_go 1 (s' := (32, [(0, .ref 3), (1, .int a1), (2, .int a2)], [.int (2 : Int32), .ref 3], (I, L))) rfl ?_
  refine xe_vir (n := 2) (f := fx_X7_fail) rfl (Nat.le_of_ble_eq_true rfl) (List.mem_of_getElem? (i := 0) rfl) (Nat.le_of_ble_eq_true rfl) c1 ?_
  exact xe_end rfl rfl rfl
set_option maxRecDepth 100000 in
theorem pt_X7_takeNumber_1 {a1 a2 : Int32} {I I1 : Nat → Nat → Int32} {L L1 : Nat → Nat → Int64} (h1 : (xe_cmp .eq (I 3 4) (2 : Int32)) = true) (h2 : (xe_cmp .lt (I 3 6) a1) = false) (h3 : (xe_cmp .le (I 3 6) a2) = true) (c1 : fx_X7_step [.ref 3] ((xu I 3 8 (I 3 6)), L) none (I1, L1)) : ∃ n, xr_X7_takeNumber n (0, [(0, .ref 3), (1, .int a1), (2, .int a2)], [], (I, L)) (some (.int (1 : Int32))) (I1, L1) := by
  refine xe_bT 3 (A := (14, [(0, .ref 3), (1, .int a1), (2, .int a2)], [], (I, L))) (B := (8, [(0, .ref 3), (1, .int a1), (2, .int a2)], [], (I, L))) h1 rfl ?_
  refine xe_bF 3 (A := (30, [(0, .ref 3), (1, .int a1), (2, .int a2)], [], (I, L))) (B := (22, [(0, .ref 3), (1, .int a1), (2, .int a2)], [], (I, L))) h2 rfl ?_
  refine xe_bT 3 (A := (36, [(0, .ref 3), (1, .int a1), (2, .int a2)], [], (I, L))) (B := (30, [(0, .ref 3), (1, .int a1), (2, .int a2)], [], (I, L))) h3 rfl ?_
  refine xe_go 4 (s' := (45, [(0, .ref 3), (1, .int a1), (2, .int a2)], [.ref 3], ((xu I 3 8 (I 3 6)), L))) rfl ?_
  refine xe_vir (n := 1) (f := fx_X7_step) rfl (Nat.le_of_ble_eq_true rfl) (List.mem_of_getElem? (i := 1) rfl) (Nat.le_of_ble_eq_true rfl) c1 ?_
  refine xe_go 0 (s' := (49, [(0, .ref 3), (1, .int a1), (2, .int a2)], [.int (1 : Int32)], (I1, L1))) rfl ?_
  exact xe_end rfl rfl rfl
set_option maxRecDepth 100000 in
theorem pt_X7_takeNumber_2 {a1 a2 : Int32} {I I1 : Nat → Nat → Int32} {L L1 : Nat → Nat → Int64} (h1 : (xe_cmp .eq (I 3 4) (2 : Int32)) = true) (h2 : (xe_cmp .lt (I 3 6) a1) = false) (h3 : (xe_cmp .le (I 3 6) a2) = false) (c1 : fx_X7_fail [.int (2 : Int32), .ref 3] (I, L) (some (.int 0)) (I1, L1)) : ∃ n, xr_X7_takeNumber n (0, [(0, .ref 3), (1, .int a1), (2, .int a2)], [], (I, L)) (some (.int 0)) (I1, L1) := by
  refine xe_bT 3 (A := (14, [(0, .ref 3), (1, .int a1), (2, .int a2)], [], (I, L))) (B := (8, [(0, .ref 3), (1, .int a1), (2, .int a2)], [], (I, L))) h1 rfl ?_
  refine xe_bF 3 (A := (30, [(0, .ref 3), (1, .int a1), (2, .int a2)], [], (I, L))) (B := (22, [(0, .ref 3), (1, .int a1), (2, .int a2)], [], (I, L))) h2 rfl ?_
  refine xe_bF 3 (A := (36, [(0, .ref 3), (1, .int a1), (2, .int a2)], [], (I, L))) (B := (30, [(0, .ref 3), (1, .int a1), (2, .int a2)], [], (I, L))) h3 rfl ?_
  refine xe_go 1 (s' := (32, [(0, .ref 3), (1, .int a1), (2, .int a2)], [.int (2 : Int32), .ref 3], (I, L))) rfl ?_
  refine xe_vir (n := 2) (f := fx_X7_fail) rfl (Nat.le_of_ble_eq_true rfl) (List.mem_of_getElem? (i := 0) rfl) (Nat.le_of_ble_eq_true rfl) c1 ?_
  exact xe_end rfl rfl rfl
set_option maxRecDepth 100000 in
theorem pt_X7_takeNumber_3 {a1 a2 : Int32} {I I1 : Nat → Nat → Int32} {L L1 : Nat → Nat → Int64} (h1 : (xe_cmp .eq (I 3 4) (2 : Int32)) = false) (c1 : fx_X7_fail [.int (1 : Int32), .ref 3] (I, L) (some (.int 0)) (I1, L1)) : ∃ n, xr_X7_takeNumber n (0, [(0, .ref 3), (1, .int a1), (2, .int a2)], [], (I, L)) (some (.int 0)) (I1, L1) := by
  refine xe_bF 3 (A := (14, [(0, .ref 3), (1, .int a1), (2, .int a2)], [], (I, L))) (B := (8, [(0, .ref 3), (1, .int a1), (2, .int a2)], [], (I, L))) h1 rfl ?_
  refine xe_go 1 (s' := (10, [(0, .ref 3), (1, .int a1), (2, .int a2)], [.int (1 : Int32), .ref 3], (I, L))) rfl ?_
  refine xe_vir (n := 2) (f := fx_X7_fail) rfl (Nat.le_of_ble_eq_true rfl) (List.mem_of_getElem? (i := 0) rfl) (Nat.le_of_ble_eq_true rfl) c1 ?_
  exact xe_end rfl rfl rfl
def xi_X7_length : List (Nat × Nat × Instr) := [(0, 1, .aload_n 0), (1, 3, .getfield 19), (4, 1, .aload_n 0), (5, 3, .getfield 44), (8, 1, .isub), (9, 1, .ireturn)]
def xg_X7_length : zf_ft := [(19, 5, 3, .inl (0, 0)), (44, 5, 2, .inl (0, 0))]
def xp_X7_length : zf_ft := []
def xv_X7_length : List (Nat × Nat × xe_F) := []
def xt_X7_length : List (Nat × Nat × xe_F) := []
abbrev xr_X7_length := xe_run xGT xSC xRF 1 xg_X7_length xp_X7_length [] [] xv_X7_length xt_X7_length xi_X7_length
def fx_X7_length : xe_F := fun us hp v hp' => (us.map fun v => v.category).sum ≤ 1 ∧ xe_rt (some .int) v ∧ (∃ ar, us = ar ++ [.ref 3]) ∧ ∃ n, xr_X7_length n (0, xe_ag 0 us.reverse, [], hp) v hp'
theorem mk_X7_length  {hp hp' : xe_H} {v : Option Value} (hr : xe_rt (some .int) v) (h : ∃ n, xr_X7_length n (0, [(0, .ref 3)], [], hp) v hp') : fx_X7_length [.ref 3] hp v hp' := ⟨Nat.le_of_ble_eq_true rfl, hr, ⟨[], rfl⟩, h⟩
theorem hx_X7_length : ∀ us hp v hp', fx_X7_length us hp v hp' → (us.map fun v => v.category).sum ≤ 1 ∧ xe_rt (some .int) v ∧ ∃ n, xr_X7_length n (0, xe_ag 0 us.reverse, [], hp) v hp' := fun us hp v hp' h => ⟨h.1, h.2.1, h.2.2.2⟩
theorem fr_X7_length : ∀ us hp v hp', fx_X7_length us hp v hp' → ∃ ar, us = ar ++ [.ref 3] := fun us hp v hp' h => h.2.2.1
set_option maxRecDepth 100000 in
set_option maxHeartbeats 4000000 in
theorem kx_X7_length (l : Launch) (D : va_G) (k : Nat → ClassId) (B0 : Nat) (ad : Nat → Nat) (al sw : Nat) : xe_Con l yX7_length (zw yX7_length cX7_length 1 (some .int)) ({ frames := 0, cells := 0, slots := 0, locals := 0 }) D k ad (zEx B0 ad al sw) xGT xSC xRF fx_X7_length := by
  have hEx := zEx_ok B0 ad al sw
  refine xe_mk (cc := cX7_length) (nL := 1) (ret := (some .int)) (fg := xg_X7_length) (fp := xp_X7_length) (sg := []) (lc := []) (cv := xv_X7_length) (cs := xt_X7_length) (ins := xi_X7_length) (by decide) rfl hEx (by decide +kernel) hx_X7_length ?_
  intro p e s m args below meth c Q Sg w0 A θ S hK hE hAB hA hth
  refine ⟨?_, ?_, ?_, ?_, ?_, ?_⟩
  · exact zf_ac ((fun H locs ws a q0 fs v rest pc ls hP he hv hdg kk => va_get (D := D) (ci := 5) (C := RX7) (T := TX7) (N := 11) (own := RX7) S.1 S.2.1 S.2.2.2.2 (zg_in inW_X7) S.2.2.2.1 hK hP q0 he rfl 3 (by decide) (S.2.2.2.2 (.fieldLink RX7 19 "RungMoney$Reader" "next" "I") (List.mem_cons_of_mem _ zw_153)) (fun _ h9 => h9) hv hdg kk)) (zf_ac ((fun H locs ws a q0 fs v rest pc ls hP he hv hdg kk => va_get (D := D) (ci := 5) (C := RX7) (T := TX7) (N := 11) (own := RX7) S.1 S.2.1 S.2.2.2.2 (zg_in inW_X7) S.2.2.2.1 hK hP q0 he rfl 2 (by decide) (S.2.2.2.2 (.fieldLink RX7 44 "RungMoney$Reader" "at" "I") (List.mem_cons_of_mem _ zw_152)) (fun _ h9 => h9) hv hdg kk)) zf_an)
  · exact zf_an
  · exact xe_n2
  · exact xe_n3
  · exact xe_n4
  · exact xe_n4
set_option maxRecDepth 100000 in
theorem pt_X7_length_0 {I : Nat → Nat → Int32} {L : Nat → Nat → Int64}  : ∃ n, xr_X7_length n (0, [(0, .ref 3)], [], (I, L)) (some (.int ((I 3 3) - (I 3 2)))) (I, L) := by
  refine xe_go 4 (s' := (9, [(0, .ref 3)], [.int ((I 3 3) - (I 3 2))], (I, L))) rfl ?_
  exact xe_end rfl rfl rfl
def xi_X7_letter : List (Nat × Nat × Instr) := [(0, 1, .iload_n 1), (1, 3, .ifCond .lt 36), (4, 1, .iload_n 1), (5, 1, .aload_n 0), (6, 3, .getfield 9), (9, 3, .getfield 31), (12, 1, .aload_n 0), (13, 3, .getfield 44), (16, 1, .isub), (17, 3, .if_icmp .ge 20), (20, 1, .aload_n 0), (21, 3, .getfield 9), (24, 3, .getfield 36), (27, 1, .aload_n 0), (28, 3, .getfield 44), (31, 1, .iload_n 1), (32, 1, .iadd), (33, 1, .iaload), (34, 3, .goto 4), (37, 1, .iconst 0), (38, 1, .ireturn)]
def xg_X7_letter : zf_ft := [(9, 5, 0, .inl (0, 0)), (31, 7, 1, .inl (0, 0)), (44, 5, 2, .inl (0, 0)), (36, 7, 0, .inl (0, 0))]
def xp_X7_letter : zf_ft := []
def xv_X7_letter : List (Nat × Nat × xe_F) := []
def xt_X7_letter : List (Nat × Nat × xe_F) := []
abbrev xr_X7_letter := xe_run xGT xSC xRF 2 xg_X7_letter xp_X7_letter [] [] xv_X7_letter xt_X7_letter xi_X7_letter
def fx_X7_letter : xe_F := fun us hp v hp' => (us.map fun v => v.category).sum ≤ 2 ∧ xe_rt (some .int) v ∧ (∃ ar, us = ar ++ [.ref 3]) ∧ ∃ n, xr_X7_letter n (0, xe_ag 0 us.reverse, [], hp) v hp'
theorem mk_X7_letter {a1 : Int32} {hp hp' : xe_H} {v : Option Value} (hr : xe_rt (some .int) v) (h : ∃ n, xr_X7_letter n (0, [(0, .ref 3), (1, .int a1)], [], hp) v hp') : fx_X7_letter [.int a1, .ref 3] hp v hp' := ⟨Nat.le_of_ble_eq_true rfl, hr, ⟨[.int a1], rfl⟩, h⟩
theorem hx_X7_letter : ∀ us hp v hp', fx_X7_letter us hp v hp' → (us.map fun v => v.category).sum ≤ 2 ∧ xe_rt (some .int) v ∧ ∃ n, xr_X7_letter n (0, xe_ag 0 us.reverse, [], hp) v hp' := fun us hp v hp' h => ⟨h.1, h.2.1, h.2.2.2⟩
theorem fr_X7_letter : ∀ us hp v hp', fx_X7_letter us hp v hp' → ∃ ar, us = ar ++ [.ref 3] := fun us hp v hp' h => h.2.2.1
set_option maxRecDepth 100000 in
set_option maxHeartbeats 4000000 in
theorem kx_X7_letter (l : Launch) (D : va_G) (k : Nat → ClassId) (B0 : Nat) (ad : Nat → Nat) (al sw : Nat) : xe_Con l yX7_letter (zw yX7_letter cX7_letter 2 (some .int)) ({ frames := 0, cells := 0, slots := 0, locals := 0 }) D k ad (zEx B0 ad al sw) xGT xSC xRF fx_X7_letter := by
  have hEx := zEx_ok B0 ad al sw
  refine xe_mk (cc := cX7_letter) (nL := 2) (ret := (some .int)) (fg := xg_X7_letter) (fp := xp_X7_letter) (sg := []) (lc := []) (cv := xv_X7_letter) (cs := xt_X7_letter) (ins := xi_X7_letter) (by decide) rfl hEx (by decide +kernel) hx_X7_letter ?_
  intro p e s m args below meth c Q Sg w0 A θ S hK hE hAB hA hth
  refine ⟨?_, ?_, ?_, ?_, ?_, ?_⟩
  · exact zf_ac ((fun H locs ws a q0 fs v rest pc ls hP he hv hdg kk => va_get (D := D) (ci := 5) (C := RX7) (T := TX7) (N := 11) (own := RX7) S.1 S.2.1 S.2.2.2.2 (zg_in inW_X7) S.2.2.2.1 hK hP q0 he rfl 0 (by decide) (S.2.2.2.2 (.fieldLink RX7 9 "RungMoney$Reader" "tape" "LRungMoney$Tape;") (List.mem_cons_of_mem _ zw_150)) (fun _ h9 => h9) hv hdg kk)) (zf_ac ((fun H locs ws a q0 fs v rest pc ls hP he hv hdg kk => va_get (D := D) (ci := 7) (C := RX9) (T := TX9) (N := 2) (own := RX7) S.1 S.2.1 S.2.2.2.2 (zg_in inW_X9) S.2.2.2.1 hK hP q0 he rfl 1 (by decide) (S.2.2.2.2 (.fieldLink RX7 31 "RungMoney$Tape" "size" "I") (List.mem_cons_of_mem _ zw_137)) (fun _ h9 => h9) hv hdg kk)) (zf_ac ((fun H locs ws a q0 fs v rest pc ls hP he hv hdg kk => va_get (D := D) (ci := 5) (C := RX7) (T := TX7) (N := 11) (own := RX7) S.1 S.2.1 S.2.2.2.2 (zg_in inW_X7) S.2.2.2.1 hK hP q0 he rfl 2 (by decide) (S.2.2.2.2 (.fieldLink RX7 44 "RungMoney$Reader" "at" "I") (List.mem_cons_of_mem _ zw_152)) (fun _ h9 => h9) hv hdg kk)) (zf_ac ((fun H locs ws a q0 fs v rest pc ls hP he hv hdg kk => va_get (D := D) (ci := 7) (C := RX9) (T := TX9) (N := 2) (own := RX7) S.1 S.2.1 S.2.2.2.2 (zg_in inW_X9) S.2.2.2.1 hK hP q0 he rfl 0 (by decide) (S.2.2.2.2 (.fieldLink RX7 36 "RungMoney$Tape" "bytes" "[I") (List.mem_cons_of_mem _ zw_133)) (fun _ h9 => h9) hv hdg kk)) zf_an)))
  · exact zf_an
  · exact xe_n2
  · exact xe_n3
  · exact xe_n4
  · exact xe_n4
set_option maxRecDepth 100000 in
theorem pt_X7_letter_0 {a1 : Int32} {I : Nat → Nat → Int32} {L : Nat → Nat → Int64} (h1 : (xe_cmp .lt a1 0) = true) : ∃ n, xr_X7_letter n (0, [(0, .ref 3), (1, .int a1)], [], (I, L)) (some (.int (0 : Int32))) (I, L) := by
  refine xe_bT 1 (A := (37, [(0, .ref 3), (1, .int a1)], [], (I, L))) (B := (4, [(0, .ref 3), (1, .int a1)], [], (I, L))) h1 rfl ?_
  refine xe_go 0 (s' := (38, [(0, .ref 3), (1, .int a1)], [.int (0 : Int32)], (I, L))) rfl ?_
  exact xe_end rfl rfl rfl
set_option maxRecDepth 100000 in
theorem pt_X7_letter_1 {a1 : Int32} {I : Nat → Nat → Int32} {L : Nat → Nat → Int64} (h1 : (xe_cmp .lt a1 0) = false) (h2 : (xe_cmp .ge a1 ((I 1 1) - (I 3 2))) = true) : ∃ n, xr_X7_letter n (0, [(0, .ref 3), (1, .int a1)], [], (I, L)) (some (.int (0 : Int32))) (I, L) := by
  refine xe_bF 1 (A := (37, [(0, .ref 3), (1, .int a1)], [], (I, L))) (B := (4, [(0, .ref 3), (1, .int a1)], [], (I, L))) h1 rfl ?_
  refine xe_bT 7 (A := (37, [(0, .ref 3), (1, .int a1)], [], (I, L))) (B := (20, [(0, .ref 3), (1, .int a1)], [], (I, L))) h2 rfl ?_
  refine xe_go 0 (s' := (38, [(0, .ref 3), (1, .int a1)], [.int (0 : Int32)], (I, L))) rfl ?_
  exact xe_end rfl rfl rfl
set_option maxRecDepth 100000 in
theorem pt_X7_letter_2 {a1 : Int32} {I : Nat → Nat → Int32} {L : Nat → Nat → Int64} (h1 : (xe_cmp .lt a1 0) = false) (h2 : (xe_cmp .ge a1 ((I 1 1) - (I 3 2))) = false) (h3 : xe_ib ((I 3 2) + a1) 940 = true) : ∃ n, xr_X7_letter n (0, [(0, .ref 3), (1, .int a1)], [], (I, L)) (some (.int (I 2 ((((I 3 2) + a1)).toInt.toNat)))) (I, L) := by
  refine xe_bF 1 (A := (37, [(0, .ref 3), (1, .int a1)], [], (I, L))) (B := (4, [(0, .ref 3), (1, .int a1)], [], (I, L))) h1 rfl ?_
  refine xe_bF 7 (A := (37, [(0, .ref 3), (1, .int a1)], [], (I, L))) (B := (20, [(0, .ref 3), (1, .int a1)], [], (I, L))) h2 rfl ?_
  refine xe_ar 7 (A := (34, [(0, .ref 3), (1, .int a1)], [.int (I 2 ((((I 3 2) + a1)).toInt.toNat))], (I, L))) h3 rfl ?_
  refine xe_go 0 (s' := (38, [(0, .ref 3), (1, .int a1)], [.int (I 2 ((((I 3 2) + a1)).toInt.toNat))], (I, L))) rfl ?_
  exact xe_end rfl rfl rfl

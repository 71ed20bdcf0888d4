def zm_X13_throwsIf : zf_M := (([(0, 1)], [], 64, [], [.inl ([(0, 1)], 0), .inr (some (18, 18))], []), [(18, ([], 0), ([], 0))], [(some (.inl ([(0, 1)], 0)), ([(1, 1)], [], 64, [], [], [])), (some (.inl ([(0, 1)], 0)), ([(0, 0)], [], 64, [], [], []))])
def zn_X13_throwsIf : List zf_X := [(0, 1, .aload_n 0, []), (1, 1, .iload_n 1, []), (2, 3, .ifCond .eq 7, []), (5, 1, .iconst 1, []), (6, 3, .goto 4, []), (9, 1, .iconst 0, []), (10, 3, .putfield 1, []), (13, 1, .iload_n 1, []), (14, 1, .ireturn, [])]
def zu_X13_throwsIf : List zf_U := []
set_option maxRecDepth 100000 in
theorem inW_X13 : ∀ w ∈ wsX130, w ∈ lw_g := by decide +kernel
theorem zw_1348 : (Jvm.Cond.fieldLink RX13 1 "RungMoneyModel" "thrown" "I") ∈ lw_g := lw_t6 rfl (List.mem_of_getElem? (i := 54) rfl)
set_option maxRecDepth 100000 in
set_option maxHeartbeats 4000000 in
theorem kc_X13_throwsIf (l : Launch) (D : va_G) (k : Nat → ClassId) (B0 : Nat) (ad : Nat → Nat) (al sw : Nat) : zf_Con l yX13_throwsIf (zw yX13_throwsIf cX13_throwsIf 2 (some .boolean)) ({ frames := 0, cells := 0, slots := 0, locals := 0 }) D k (zEx B0 ad al sw) zGT 37 zm_X13_throwsIf := by
  have hEx := zEx_ok B0 ad al sw
  refine zf_mk (cc := cX13_throwsIf) (nL := 2) (ret := (some .boolean)) (Ms := []) (fg := []) (fp := [(1, 11, 0, .inl ((-2147483648), 2147483647))]) (ins := zn_X13_throwsIf) (cuts := zu_X13_throwsIf) (fuel := 3000) (by decide) rfl hEx (by decide +kernel) (by decide +kernel) (by decide +kernel) (by decide +kernel) ?_
  intro p e s m args below meth c Q Sg w0 A θ0 S hK hE hAB hA hone hsing
  refine ⟨?_, ?_, ?_⟩
  · exact zf_an
  · exact zf_ac ((fun H locs ws a q0 fs v rest pc ls hP hD hS he hl hv hdg kk => by obtain ⟨x, rfl, h1, h2⟩ := hv; exact va_put (D := D) (ci := 11) (v := .int x) (ty := .int) (C := RX13) (T := TX13) (N := 47) (own := RX13) S.1 S.2.1 S.2.2.2.2 (zg_in inW_X13) tyX13 tyX13_ok nmX13 S.2.2.2.1 hK hP hD hS q0 he rfl 0 (by decide) (S.2.2.2.2 (.fieldLink RX13 1 "RungMoneyModel" "thrown" "I") (List.mem_cons_of_mem _ zw_1348)) (fun _ h9 => h9) rfl (by decide +kernel) rfl rfl hl hdg kk)) zf_an
  · exact zf_crl (xs := []) (by decide +kernel) (zf_an)
def zm_X13_four : zf_M := (([((-2147483648), 2147483647), (0, 936)], [], 64, [], [.inl ([(0, 1)], 0), .inr (some (18, 18))], [(18, 18, ([], 2), .inl ([(1, 1)], 0))]), [(19, ([(1, 1)], 0), ([(1, 1)], 0)), (18, ([], 2), ([], 2)), (19, ([(1, 1)], 1), ([(1, 1)], 1)), (19, ([(1, 1)], 2), ([(1, 1)], 2)), (19, ([(1, 1)], 3), ([(1, 1)], 3))], [(none, ([((-2147483648), 2147483647), (0, 936)], [], 64, [], [], [(18, 18, ([], 2), .inl ([(1, 1)], 4))]))])
def zn_X13_four : List zf_X := [(0, 2, .bipush 24, []), (2, 1, .istore_n 2, []), (3, 1, .iload_n 2, []), (4, 3, .ifCond .lt 32, []), (7, 1, .aload_n 0, []), (8, 3, .getfield 14, []), (11, 1, .aload_n 0, []), (12, 3, .getfield 7, []), (15, 1, .iload_n 1, []), (16, 1, .iload_n 2, []), (17, 1, .ishr, []), (18, 1, .i2b, []), (19, 1, .bastore, []), (20, 1, .aload_n 0, []), (21, 1, .dup, []), (22, 3, .getfield 7, []), (25, 1, .iconst 1, []), (26, 1, .iadd, []), (27, 3, .putfield 7, []), (30, 3, .iinc 2 (-8), []), (33, 3, .goto (-30), []), (36, 1, .return_, [])]
def zu_X13_four : List zf_U := []
theorem zw_1350 : (Jvm.Cond.fieldLink RX13 7 "RungMoneyModel" "length" "I") ∈ lw_g := lw_t6 rfl (List.mem_of_getElem? (i := 56) rfl)
theorem zw_1349 : (Jvm.Cond.fieldLink RX13 14 "RungMoneyModel" "tape" "[B") ∈ lw_g := lw_t6 rfl (List.mem_of_getElem? (i := 55) rfl)
set_option maxRecDepth 100000 in
set_option maxHeartbeats 4000000 in
theorem kc_X13_four (l : Launch) (D : va_G) (k : Nat → ClassId) (B0 : Nat) (ad : Nat → Nat) (al sw : Nat) : zf_Con l yX13_four (zw yX13_four cX13_four 3 none) ({ frames := 0, cells := 0, slots := 0, locals := 0 }) D k (zEx B0 ad al sw) zGT 37 zm_X13_four := by
  have hEx := zEx_ok B0 ad al sw
  refine zf_mk (cc := cX13_four) (nL := 3) (ret := none) (Ms := []) (fg := [(7, 11, 2, .inl (0, 0)), (14, 11, 1, .inl (0, 0))]) (fp := [(7, 11, 2, .inl ((-2147483648), 2147483647))]) (ins := zn_X13_four) (cuts := zu_X13_four) (fuel := 3000) (by decide) rfl hEx (by decide +kernel) (by decide +kernel) (by decide +kernel) (by decide +kernel) ?_
  intro p e s m args below meth c Q Sg w0 A θ0 S hK hE hAB hA hone hsing
  refine ⟨?_, ?_, ?_⟩
  · exact zf_ac ((fun H locs ws a q0 fs v rest pc ls hP he hv hdg kk => va_get (D := D) (ci := 11) (C := RX13) (T := TX13) (N := 47) (own := RX13) S.1 S.2.1 S.2.2.2.2 (zg_in inW_X13) S.2.2.2.1 hK hP q0 he rfl 2 (by decide) (S.2.2.2.2 (.fieldLink RX13 7 "RungMoneyModel" "length" "I") (List.mem_cons_of_mem _ zw_1350)) (fun _ h9 => h9) hv hdg kk)) (zf_ac ((fun H locs ws a q0 fs v rest pc ls hP he hv hdg kk => va_get (D := D) (ci := 11) (C := RX13) (T := TX13) (N := 47) (own := RX13) S.1 S.2.1 S.2.2.2.2 (zg_in inW_X13) S.2.2.2.1 hK hP q0 he rfl 1 (by decide) (S.2.2.2.2 (.fieldLink RX13 14 "RungMoneyModel" "tape" "[B") (List.mem_cons_of_mem _ zw_1349)) (fun _ h9 => h9) hv hdg kk)) zf_an)
  · exact zf_ac ((fun H locs ws a q0 fs v rest pc ls hP hD hS he hl hv hdg kk => by obtain ⟨x, rfl, h1, h2⟩ := hv; exact va_put (D := D) (ci := 11) (v := .int x) (ty := .int) (C := RX13) (T := TX13) (N := 47) (own := RX13) S.1 S.2.1 S.2.2.2.2 (zg_in inW_X13) tyX13 tyX13_ok nmX13 S.2.2.2.1 hK hP hD hS q0 he rfl 2 (by decide) (S.2.2.2.2 (.fieldLink RX13 7 "RungMoneyModel" "length" "I") (List.mem_cons_of_mem _ zw_1350)) (fun _ h9 => h9) rfl (by decide +kernel) rfl rfl hl hdg kk)) zf_an
  · exact zf_crl (xs := []) (by decide +kernel) (zf_an)
def zm_X13_feed : zf_M := (([((-2147483648), 2147483647), ((-2147483648), 2147483647), ((-2147483648), 2147483647), ((-2147483648), 2147483647), ((-2147483648), 2147483647), (0, 940)], [], 64, [], [.inl ([(4, 1)], 0), .inl ([(3, 1)], 0), .inl ([(2, 1)], 0), .inl ([(1, 1)], 0), .inl ([(0, 1)], 0), .inr (some (18, 18))], [(18, 18, ([], 2), .inl ([(5, 1)], 0))]), [(18, ([], 0), ([], 0)), (18, ([], 2), ([], 2)), (19, ([], 0), ([], 939))], [(some (.inl ([], (-1))), ([((-2147483648), 2147483647), ((-2147483648), 2147483647), ((-2147483648), 2147483647), ((-2147483648), 2147483647), ((-2147483648), 2147483647), (921, 940)], [], 64, [], [], [(18, 18, ([], 2), .inl ([(5, 1)], 0))])), (some (.inl ([(5, 1)], 20)), ([((-2147483648), 2147483647), ((-2147483648), 2147483647), ((-2147483648), 2147483647), ((-2147483648), 2147483647), ((-2147483648), 2147483647), (0, 920)], [], 64, [], [], [(18, 18, ([], 2), .inl ([(5, 1)], 20))]))])
def zn_X13_feed : List zf_X := [(0, 1, .aload_n 0, []), (1, 1, .iconst 0, []), (2, 3, .putfield 1, []), (5, 1, .aload_n 0, []), (6, 3, .getfield 7, []), (9, 2, .bipush 20, []), (11, 1, .iadd, []), (12, 3, .sipush 940, []), (15, 3, .if_icmp .le 5, []), (18, 1, .iconst (-1), []), (19, 1, .ireturn, []), (20, 1, .aload_n 0, []), (21, 1, .iload_n 1, []), (22, 3, .invokevirtual 10, [0]), (25, 1, .aload_n 0, []), (26, 1, .iload_n 2, []), (27, 3, .invokevirtual 10, [0]), (30, 1, .aload_n 0, []), (31, 1, .iload_n 3, []), (32, 3, .invokevirtual 10, [0]), (35, 1, .aload_n 0, []), (36, 2, .iload 4, []), (38, 3, .invokevirtual 10, [0]), (41, 1, .aload_n 0, []), (42, 2, .iload 5, []), (44, 3, .invokevirtual 10, [0]), (47, 1, .aload_n 0, []), (48, 3, .getfield 7, []), (51, 1, .ireturn, [])]
def zu_X13_feed : List zf_U := []
theorem zw_1315 : (Jvm.Cond.code yX13_four cX13_four 3 none) ∈ lw_g := lw_t6 rfl (List.mem_of_getElem? (i := 21) rfl)
theorem zw_1311 : (Jvm.Cond.methodLink RX13 10 yX13_four) ∈ lw_g := lw_t6 rfl (List.mem_of_getElem? (i := 17) rfl)
theorem zw_1313 : (Jvm.Cond.instanceMethod yX13_four) ∈ lw_g := lw_t6 rfl (List.mem_of_getElem? (i := 19) rfl)
theorem zw_25 : (Jvm.Cond.selects RX13 yX13_four yX13_four) ∈ lw_g := lw_s rfl (List.mem_of_getElem? (i := 25) rfl)
theorem zw_109 : (Jvm.Cond.initialized RX13) ∈ lw_g := lw_t1 rfl (List.mem_of_getElem? (i := 15) rfl)
set_option maxRecDepth 100000 in
set_option maxHeartbeats 4000000 in
theorem kc_X13_feed (l : Launch) (D : va_G) (k : Nat → ClassId) (B0 : Nat) (ad : Nat → Nat) (al sw : Nat) : zf_Con l yX13_feed (zw yX13_feed cX13_feed 6 (some .int)) ({ frames := 1, cells := 0, slots := 0, locals := 22 }) D k (zEx B0 ad al sw) zGT 37 zm_X13_feed := by
  have hEx := zEx_ok B0 ad al sw
  refine zf_mk (cc := cX13_feed) (nL := 6) (ret := (some .int)) (Ms := [zm_X13_four]) (fg := [(7, 11, 2, .inl (0, 0))]) (fp := [(1, 11, 0, .inl ((-2147483648), 2147483647))]) (ins := zn_X13_feed) (cuts := zu_X13_feed) (fuel := 3000) (by decide) rfl hEx (by decide +kernel) (by decide +kernel) (by decide +kernel) (by decide +kernel) ?_
  intro p e s m args below meth c Q Sg w0 A θ0 S hK hE hAB hA hone hsing
  refine ⟨?_, ?_, ?_⟩
  · exact zf_ac ((fun H locs ws a q0 fs v rest pc ls hP he hv hdg kk => va_get (D := D) (ci := 11) (C := RX13) (T := TX13) (N := 47) (own := RX13) S.1 S.2.1 S.2.2.2.2 (zg_in inW_X13) S.2.2.2.1 hK hP q0 he rfl 2 (by decide) (S.2.2.2.2 (.fieldLink RX13 7 "RungMoneyModel" "length" "I") (List.mem_cons_of_mem _ zw_1350)) (fun _ h9 => h9) hv hdg kk)) zf_an
  · exact zf_ac ((fun H locs ws a q0 fs v rest pc ls hP hD hS he hl hv hdg kk => by obtain ⟨x, rfl, h1, h2⟩ := hv; exact va_put (D := D) (ci := 11) (v := .int x) (ty := .int) (C := RX13) (T := TX13) (N := 47) (own := RX13) S.1 S.2.1 S.2.2.2.2 (zg_in inW_X13) tyX13 tyX13_ok nmX13 S.2.2.2.1 hK hP hD hS q0 he rfl 0 (by decide) (S.2.2.2.2 (.fieldLink RX13 1 "RungMoneyModel" "thrown" "I") (List.mem_cons_of_mem _ zw_1348)) (fun _ h9 => h9) rfl (by decide +kernel) rfl rfl hl hdg kk)) zf_an
  · exact zf_crl (xs := [(.invokevirtual 10, 3, 0)]) (by decide +kernel) (zf_ac (zf_crV S hEx hE hAB hA hK hone hsing (kc_X13_four l D k B0 ad al sw) (cwV 1 S.2.2.2.2 (zg_V zw_1311 zw_1313 zw_25 zw_109 zw_1315) rfl rfl rfl (by decide +kernel) ⟨(Nat.le_of_ble_eq_true rfl), (Nat.le_of_ble_eq_true rfl)⟩) ⟨(Nat.le_of_ble_eq_true rfl), (Nat.le_of_ble_eq_true rfl)⟩ 11 rfl rfl (ar := [.inl ([(0, 1)], 0)]) rfl rfl (by decide +kernel)) zf_an)
def zm_X13_end : zf_M := (([((-2147483648), 2147483647), (0, 940)], [], 64, [], [.inl ([(0, 1)], 0), .inr (some (18, 18))], [(18, 18, ([], 2), .inl ([(1, 1)], 0))]), [(18, ([], 0), ([], 0)), (18, ([], 2), ([], 2))], [(some (.inl ([], 0)), ([(1, 2147483647), (0, 940)], [([(0, 1), (1, (-1))], (-1))], 64, [], [], [(18, 18, ([], 2), .inl ([(1, 1)], 0))])), (some (.inl ([], 1)), ([(0, 940), (0, 940)], [([(0, (-1)), (1, 1)], 0)], 64, [], [], [(18, 18, ([], 2), .inl ([(0, 1)], 0))])), (some (.inl ([], 0)), ([((-2147483648), (-1)), (0, 940)], [], 64, [], [], [(18, 18, ([], 2), .inl ([(1, 1)], 0))]))])
def zn_X13_end : List zf_X := [(0, 1, .aload_n 0, []), (1, 1, .iconst 0, []), (2, 3, .putfield 1, []), (5, 1, .iload_n 1, []), (6, 3, .ifCond .lt 11, []), (9, 1, .iload_n 1, []), (10, 1, .aload_n 0, []), (11, 3, .getfield 7, []), (14, 3, .if_icmp .le 5, []), (17, 1, .iconst 0, []), (18, 1, .ireturn, []), (19, 1, .aload_n 0, []), (20, 1, .iload_n 1, []), (21, 3, .putfield 7, []), (24, 1, .iconst 1, []), (25, 1, .ireturn, [])]
def zu_X13_end : List zf_U := []
set_option maxRecDepth 100000 in
set_option maxHeartbeats 4000000 in
theorem kc_X13_end (l : Launch) (D : va_G) (k : Nat → ClassId) (B0 : Nat) (ad : Nat → Nat) (al sw : Nat) : zf_Con l yX13_end (zw yX13_end cX13_end 2 (some .boolean)) ({ frames := 0, cells := 0, slots := 0, locals := 0 }) D k (zEx B0 ad al sw) zGT 37 zm_X13_end := by
  have hEx := zEx_ok B0 ad al sw
  refine zf_mk (cc := cX13_end) (nL := 2) (ret := (some .boolean)) (Ms := []) (fg := [(7, 11, 2, .inl (0, 0))]) (fp := [(1, 11, 0, .inl ((-2147483648), 2147483647)), (7, 11, 2, .inl ((-2147483648), 2147483647))]) (ins := zn_X13_end) (cuts := zu_X13_end) (fuel := 3000) (by decide) rfl hEx (by decide +kernel) (by decide +kernel) (by decide +kernel) (by decide +kernel) ?_
  intro p e s m args below meth c Q Sg w0 A θ0 S hK hE hAB hA hone hsing
  refine ⟨?_, ?_, ?_⟩
  · exact zf_ac ((fun H locs ws a q0 fs v rest pc ls hP he hv hdg kk => va_get (D := D) (ci := 11) (C := RX13) (T := TX13) (N := 47) (own := RX13) S.1 S.2.1 S.2.2.2.2 (zg_in inW_X13) S.2.2.2.1 hK hP q0 he rfl 2 (by decide) (S.2.2.2.2 (.fieldLink RX13 7 "RungMoneyModel" "length" "I") (List.mem_cons_of_mem _ zw_1350)) (fun _ h9 => h9) hv hdg kk)) zf_an
  · exact zf_ac ((fun H locs ws a q0 fs v rest pc ls hP hD hS he hl hv hdg kk => by obtain ⟨x, rfl, h1, h2⟩ := hv; exact va_put (D := D) (ci := 11) (v := .int x) (ty := .int) (C := RX13) (T := TX13) (N := 47) (own := RX13) S.1 S.2.1 S.2.2.2.2 (zg_in inW_X13) tyX13 tyX13_ok nmX13 S.2.2.2.1 hK hP hD hS q0 he rfl 0 (by decide) (S.2.2.2.2 (.fieldLink RX13 1 "RungMoneyModel" "thrown" "I") (List.mem_cons_of_mem _ zw_1348)) (fun _ h9 => h9) rfl (by decide +kernel) rfl rfl hl hdg kk)) (zf_ac ((fun H locs ws a q0 fs v rest pc ls hP hD hS he hl hv hdg kk => by obtain ⟨x, rfl, h1, h2⟩ := hv; exact va_put (D := D) (ci := 11) (v := .int x) (ty := .int) (C := RX13) (T := TX13) (N := 47) (own := RX13) S.1 S.2.1 S.2.2.2.2 (zg_in inW_X13) tyX13 tyX13_ok nmX13 S.2.2.2.1 hK hP hD hS q0 he rfl 2 (by decide) (S.2.2.2.2 (.fieldLink RX13 7 "RungMoneyModel" "length" "I") (List.mem_cons_of_mem _ zw_1350)) (fun _ h9 => h9) rfl (by decide +kernel) rfl rfl hl hdg kk)) zf_an)
  · exact zf_crl (xs := []) (by decide +kernel) (zf_an)
def zm_X13_taken : zf_M := (([(0, 940)], [], 64, [], [.inl ([(0, 1)], 0), .inr (some (18, 18))], []), [(18, ([], 2), ([], 5))], [(none, ([(0, 940)], [], 64, [], [], [(18, 18, ([], 2), .inl ([], 0))]))])
def zn_X13_taken : List zf_X := [(0, 1, .aload_n 0, []), (1, 1, .aload_n 0, []), (2, 3, .getfield 7, []), (5, 3, .putfield 18, []), (8, 1, .aload_n 0, []), (9, 1, .iconst 0, []), (10, 3, .putfield 7, []), (13, 1, .aload_n 0, []), (14, 1, .iconst 0, []), (15, 3, .putfield 21, []), (18, 1, .aload_n 0, []), (19, 1, .iload_n 1, []), (20, 3, .putfield 24, []), (23, 1, .return_, [])]
def zu_X13_taken : List zf_U := []
theorem zw_1351 : (Jvm.Cond.fieldLink RX13 18 "RungMoneyModel" "size" "I") ∈ lw_g := lw_t6 rfl (List.mem_of_getElem? (i := 57) rfl)
theorem zw_1352 : (Jvm.Cond.fieldLink RX13 21 "RungMoneyModel" "p" "I") ∈ lw_g := lw_t6 rfl (List.mem_of_getElem? (i := 58) rfl)
theorem zw_1353 : (Jvm.Cond.fieldLink RX13 24 "RungMoneyModel" "limit" "I") ∈ lw_g := lw_t6 rfl (List.mem_of_getElem? (i := 59) rfl)
set_option maxRecDepth 100000 in
set_option maxHeartbeats 4000000 in
theorem kc_X13_taken (l : Launch) (D : va_G) (k : Nat → ClassId) (B0 : Nat) (ad : Nat → Nat) (al sw : Nat) : zf_Con l yX13_taken (zw yX13_taken cX13_taken 2 none) ({ frames := 0, cells := 0, slots := 0, locals := 0 }) D k (zEx B0 ad al sw) zGT 37 zm_X13_taken := by
  have hEx := zEx_ok B0 ad al sw
  refine zf_mk (cc := cX13_taken) (nL := 2) (ret := none) (Ms := []) (fg := [(7, 11, 2, .inl (0, 0))]) (fp := [(7, 11, 2, .inl ((-2147483648), 2147483647)), (18, 11, 3, .inl ((-2147483648), 2147483647)), (21, 11, 4, .inl ((-2147483648), 2147483647)), (24, 11, 5, .inl ((-2147483648), 2147483647))]) (ins := zn_X13_taken) (cuts := zu_X13_taken) (fuel := 3000) (by decide) rfl hEx (by decide +kernel) (by decide +kernel) (by decide +kernel) (by decide +kernel) ?_
  intro p e s m args below meth c Q Sg w0 A θ0 S hK hE hAB hA hone hsing
  refine ⟨?_, ?_, ?_⟩
  · exact zf_ac ((fun H locs ws a q0 fs v rest pc ls hP he hv hdg kk => va_get (D := D) (ci := 11) (C := RX13) (T := TX13) (N := 47) (own := RX13) S.1 S.2.1 S.2.2.2.2 (zg_in inW_X13) S.2.2.2.1 hK hP q0 he rfl 2 (by decide) (S.2.2.2.2 (.fieldLink RX13 7 "RungMoneyModel" "length" "I") (List.mem_cons_of_mem _ zw_1350)) (fun _ h9 => h9) hv hdg kk)) zf_an
  · exact zf_ac ((fun H locs ws a q0 fs v rest pc ls hP hD hS he hl hv hdg kk => by obtain ⟨x, rfl, h1, h2⟩ := hv; exact va_put (D := D) (ci := 11) (v := .int x) (ty := .int) (C := RX13) (T := TX13) (N := 47) (own := RX13) S.1 S.2.1 S.2.2.2.2 (zg_in inW_X13) tyX13 tyX13_ok nmX13 S.2.2.2.1 hK hP hD hS q0 he rfl 2 (by decide) (S.2.2.2.2 (.fieldLink RX13 7 "RungMoneyModel" "length" "I") (List.mem_cons_of_mem _ zw_1350)) (fun _ h9 => h9) rfl (by decide +kernel) rfl rfl hl hdg kk)) (zf_ac ((fun H locs ws a q0 fs v rest pc ls hP hD hS he hl hv hdg kk => by obtain ⟨x, rfl, h1, h2⟩ := hv; exact va_put (D := D) (ci := 11) (v := .int x) (ty := .int) (C := RX13) (T := TX13) (N := 47) (own := RX13) S.1 S.2.1 S.2.2.2.2 (zg_in inW_X13) tyX13 tyX13_ok nmX13 S.2.2.2.1 hK hP hD hS q0 he rfl 3 (by decide) (S.2.2.2.2 (.fieldLink RX13 18 "RungMoneyModel" "size" "I") (List.mem_cons_of_mem _ zw_1351)) (fun _ h9 => h9) rfl (by decide +kernel) rfl rfl hl hdg kk)) (zf_ac ((fun H locs ws a q0 fs v rest pc ls hP hD hS he hl hv hdg kk => by obtain ⟨x, rfl, h1, h2⟩ := hv; exact va_put (D := D) (ci := 11) (v := .int x) (ty := .int) (C := RX13) (T := TX13) (N := 47) (own := RX13) S.1 S.2.1 S.2.2.2.2 (zg_in inW_X13) tyX13 tyX13_ok nmX13 S.2.2.2.1 hK hP hD hS q0 he rfl 4 (by decide) (S.2.2.2.2 (.fieldLink RX13 21 "RungMoneyModel" "p" "I") (List.mem_cons_of_mem _ zw_1352)) (fun _ h9 => h9) rfl (by decide +kernel) rfl rfl hl hdg kk)) (zf_ac ((fun H locs ws a q0 fs v rest pc ls hP hD hS he hl hv hdg kk => by obtain ⟨x, rfl, h1, h2⟩ := hv; exact va_put (D := D) (ci := 11) (v := .int x) (ty := .int) (C := RX13) (T := TX13) (N := 47) (own := RX13) S.1 S.2.1 S.2.2.2.2 (zg_in inW_X13) tyX13 tyX13_ok nmX13 S.2.2.2.1 hK hP hD hS q0 he rfl 5 (by decide) (S.2.2.2.2 (.fieldLink RX13 24 "RungMoneyModel" "limit" "I") (List.mem_cons_of_mem _ zw_1353)) (fun _ h9 => h9) rfl (by decide +kernel) rfl rfl hl hdg kk)) zf_an)))
  · exact zf_crl (xs := []) (by decide +kernel) (zf_an)
def zm_X13_isIn : zf_M := (([((-2147483648), 2147483647), ((-2147483648), 2147483647), ((-2147483648), 2147483647)], [], 64, [], [.inl ([(2, 1)], 0), .inl ([(1, 1)], 0), .inl ([(0, 1)], 0)], []), [], [(some (.inl ([], 1)), ([((-2147483648), 2147483647), ((-2147483648), 2147483647), ((-2147483648), 2147483647)], [([(0, (-1)), (2, 1)], 0), ([(0, 1), (1, (-1))], 0)], 64, [], [], [])), (some (.inl ([], 0)), ([((-2147483647), 2147483647), ((-2147483648), 2147483647), ((-2147483648), 2147483646)], [([(0, 1), (2, (-1))], (-1)), ([(0, 1), (1, (-1))], 0)], 64, [], [], [])), (some (.inl ([], 0)), ([((-2147483648), 2147483646), ((-2147483647), 2147483647), ((-2147483648), 2147483647)], [([(0, (-1)), (1, 1)], (-1))], 64, [], [], []))])
def zn_X13_isIn : List zf_X := [(0, 1, .iload_n 0, []), (1, 1, .iload_n 1, []), (2, 3, .if_icmp .lt 12, []), (5, 1, .iload_n 0, []), (6, 1, .iload_n 2, []), (7, 3, .if_icmp .gt 7, []), (10, 1, .iconst 1, []), (11, 3, .goto 4, []), (14, 1, .iconst 0, []), (15, 1, .ireturn, [])]
def zu_X13_isIn : List zf_U := []
set_option maxRecDepth 100000 in
set_option maxHeartbeats 4000000 in
theorem kc_X13_isIn (l : Launch) (D : va_G) (k : Nat → ClassId) (B0 : Nat) (ad : Nat → Nat) (al sw : Nat) : zf_Con l yX13_isIn (zw yX13_isIn cX13_isIn 3 (some .boolean)) ({ frames := 0, cells := 0, slots := 0, locals := 0 }) D k (zEx B0 ad al sw) zGT 37 zm_X13_isIn := by
  have hEx := zEx_ok B0 ad al sw
  refine zf_mk (cc := cX13_isIn) (nL := 3) (ret := (some .boolean)) (Ms := []) (fg := []) (fp := []) (ins := zn_X13_isIn) (cuts := zu_X13_isIn) (fuel := 3000) (by decide) rfl hEx (by decide +kernel) (by decide +kernel) (by decide +kernel) (by decide +kernel) ?_
  intro p e s m args below meth c Q Sg w0 A θ0 S hK hE hAB hA hone hsing
  refine ⟨?_, ?_, ?_⟩
  · exact zf_an
  · exact zf_an
  · exact zf_crl (xs := []) (by decide +kernel) (zf_an)
def zm_X13_bitOf : zf_M := (([((-2147483648), 2147483647), ((-2147483648), 2147483647)], [], 64, [], [.inl ([(1, 1)], 0), .inl ([(0, 1)], 0)], []), [], [(some (.inl ([], 1)), ([((-2147483648), 2147483647), ((-2147483648), 2147483647)], [], 64, [], [], [])), (some (.inl ([], 0)), ([((-2147483648), 2147483647), ((-2147483648), 2147483647)], [], 64, [], [], []))])
def zn_X13_bitOf : List zf_X := [(0, 1, .iload_n 0, []), (1, 1, .iload_n 1, []), (2, 1, .ishr, []), (3, 1, .iconst 1, []), (4, 1, .iand, []), (5, 1, .iconst 1, []), (6, 3, .if_icmp .ne 7, []), (9, 1, .iconst 1, []), (10, 3, .goto 4, []), (13, 1, .iconst 0, []), (14, 1, .ireturn, [])]
def zu_X13_bitOf : List zf_U := []
set_option maxRecDepth 100000 in
set_option maxHeartbeats 4000000 in
theorem kc_X13_bitOf (l : Launch) (D : va_G) (k : Nat → ClassId) (B0 : Nat) (ad : Nat → Nat) (al sw : Nat) : zf_Con l yX13_bitOf (zw yX13_bitOf cX13_bitOf 2 (some .boolean)) ({ frames := 0, cells := 0, slots := 0, locals := 0 }) D k (zEx B0 ad al sw) zGT 37 zm_X13_bitOf := by
  have hEx := zEx_ok B0 ad al sw
  refine zf_mk (cc := cX13_bitOf) (nL := 2) (ret := (some .boolean)) (Ms := []) (fg := []) (fp := []) (ins := zn_X13_bitOf) (cuts := zu_X13_bitOf) (fuel := 3000) (by decide) rfl hEx (by decide +kernel) (by decide +kernel) (by decide +kernel) (by decide +kernel) ?_
  intro p e s m args below meth c Q Sg w0 A θ0 S hK hE hAB hA hone hsing
  refine ⟨?_, ?_, ?_⟩
  · exact zf_an
  · exact zf_an
  · exact zf_crl (xs := []) (by decide +kernel) (zf_an)
def zm_X13_lesser : zf_M := (([((-2147483648), 2147483647), ((-2147483648), 2147483647)], [], 64, [], [.inl ([(1, 1)], 0), .inl ([(0, 1)], 0)], []), [], [(some (.inl ([(0, 1)], 0)), ([((-2147483648), 2147483646), ((-2147483647), 2147483647)], [([(0, (-1)), (1, 1)], (-1))], 64, [], [], [])), (some (.inl ([(1, 1)], 0)), ([((-2147483648), 2147483647), ((-2147483648), 2147483647)], [([(0, 1), (1, (-1))], 0)], 64, [], [], []))])
def zn_X13_lesser : List zf_X := [(0, 1, .iload_n 0, []), (1, 1, .iload_n 1, []), (2, 3, .if_icmp .ge 7, []), (5, 1, .iload_n 0, []), (6, 3, .goto 4, []), (9, 1, .iload_n 1, []), (10, 1, .ireturn, [])]
def zu_X13_lesser : List zf_U := []
set_option maxRecDepth 100000 in
set_option maxHeartbeats 4000000 in
theorem kc_X13_lesser (l : Launch) (D : va_G) (k : Nat → ClassId) (B0 : Nat) (ad : Nat → Nat) (al sw : Nat) : zf_Con l yX13_lesser (zw yX13_lesser cX13_lesser 2 (some .int)) ({ frames := 0, cells := 0, slots := 0, locals := 0 }) D k (zEx B0 ad al sw) zGT 37 zm_X13_lesser := by
  have hEx := zEx_ok B0 ad al sw
  refine zf_mk (cc := cX13_lesser) (nL := 2) (ret := (some .int)) (Ms := []) (fg := []) (fp := []) (ins := zn_X13_lesser) (cuts := zu_X13_lesser) (fuel := 3000) (by decide) rfl hEx (by decide +kernel) (by decide +kernel) (by decide +kernel) (by decide +kernel) ?_
  intro p e s m args below meth c Q Sg w0 A θ0 S hK hE hAB hA hone hsing
  refine ⟨?_, ?_, ?_⟩
  · exact zf_an
  · exact zf_an
  · exact zf_crl (xs := []) (by decide +kernel) (zf_an)
def zm_X13_greater : zf_M := (([((-2147483648), 2147483647), ((-2147483648), 2147483647)], [], 64, [], [.inl ([(1, 1)], 0), .inl ([(0, 1)], 0)], []), [], [(some (.inl ([(0, 1)], 0)), ([((-2147483647), 2147483647), ((-2147483648), 2147483646)], [([(0, 1), (1, (-1))], (-1))], 64, [], [], [])), (some (.inl ([(1, 1)], 0)), ([((-2147483648), 2147483647), ((-2147483648), 2147483647)], [([(0, (-1)), (1, 1)], 0)], 64, [], [], []))])
def zn_X13_greater : List zf_X := [(0, 1, .iload_n 0, []), (1, 1, .iload_n 1, []), (2, 3, .if_icmp .le 7, []), (5, 1, .iload_n 0, []), (6, 3, .goto 4, []), (9, 1, .iload_n 1, []), (10, 1, .ireturn, [])]
def zu_X13_greater : List zf_U := []
set_option maxRecDepth 100000 in
set_option maxHeartbeats 4000000 in
theorem kc_X13_greater (l : Launch) (D : va_G) (k : Nat → ClassId) (B0 : Nat) (ad : Nat → Nat) (al sw : Nat) : zf_Con l yX13_greater (zw yX13_greater cX13_greater 2 (some .int)) ({ frames := 0, cells := 0, slots := 0, locals := 0 }) D k (zEx B0 ad al sw) zGT 37 zm_X13_greater := by
  have hEx := zEx_ok B0 ad al sw
  refine zf_mk (cc := cX13_greater) (nL := 2) (ret := (some .int)) (Ms := []) (fg := []) (fp := []) (ins := zn_X13_greater) (cuts := zu_X13_greater) (fuel := 3000) (by decide) rfl hEx (by decide +kernel) (by decide +kernel) (by decide +kernel) (by decide +kernel) ?_
  intro p e s m args below meth c Q Sg w0 A θ0 S hK hE hAB hA hone hsing
  refine ⟨?_, ?_, ?_⟩
  · exact zf_an
  · exact zf_an
  · exact zf_crl (xs := []) (by decide +kernel) (zf_an)
def zm_X13_bits : zf_M := (([(0, 2147483647)], [], 64, [], [.inl ([(0, 1)], 0)], []), [], [(some (.inl ([(1, 1)], 0)), ([(0, 2147483647), ((-2147483648), 2147483647)], [], 64, [], [], []))])
def zn_X13_bits : List zf_X := [(0, 1, .iconst 0, []), (1, 1, .istore_n 1, []), (2, 1, .iload_n 0, []), (3, 1, .istore_n 2, []), (4, 1, .iload_n 2, []), (5, 3, .ifCond .eq 15, []), (8, 3, .iinc 1 1, []), (11, 1, .iload_n 2, []), (12, 1, .iload_n 2, []), (13, 1, .iconst 1, []), (14, 1, .isub, []), (15, 1, .iand, []), (16, 1, .istore_n 2, []), (17, 3, .goto (-13), []), (20, 1, .iload_n 1, []), (21, 1, .ireturn, [])]
def zu_X13_bits : List zf_U := [(4, ([(0, 2147483647), ((-2147483648), 2147483647), (0, 2147483647)], [([(0, 1), (2, (-1))], 0)], 64, [(0, .inl ([(0, 1)], 0)), (1, .inl ([(1, 1)], 0)), (2, .inl ([(2, 1)], 0))], [], []), ([(2, 1)], 0), 0)]
set_option maxRecDepth 100000 in
set_option maxHeartbeats 4000000 in
theorem kc_X13_bits (l : Launch) (D : va_G) (k : Nat → ClassId) (B0 : Nat) (ad : Nat → Nat) (al sw : Nat) : zf_Con l yX13_bits (zw yX13_bits cX13_bits 3 (some .int)) ({ frames := 0, cells := 0, slots := 0, locals := 0 }) D k (zEx B0 ad al sw) zGT 37 zm_X13_bits := by
  have hEx := zEx_ok B0 ad al sw
  refine zf_mk (cc := cX13_bits) (nL := 3) (ret := (some .int)) (Ms := []) (fg := []) (fp := []) (ins := zn_X13_bits) (cuts := zu_X13_bits) (fuel := 3000) (by decide) rfl hEx (by decide +kernel) (by decide +kernel) (by decide +kernel) (by decide +kernel) ?_
  intro p e s m args below meth c Q Sg w0 A θ0 S hK hE hAB hA hone hsing
  refine ⟨?_, ?_, ?_⟩
  · exact zf_an
  · exact zf_an
  · exact zf_crl (xs := []) (by decide +kernel) (zf_an)
def zm_X13_octet : zf_M := (([(0, 939)], [], 64, [], [.inl ([(0, 1)], 0), .inr (some (18, 18))], []), [], [(some (.inl ([(1, 1)], 0)), ([(0, 939), (0, 255)], [], 64, [], [], []))])
def zn_X13_octet : List zf_X := [(0, 1, .aload_n 0, []), (1, 3, .getfield 14, []), (4, 1, .iload_n 1, []), (5, 1, .baload, []), (6, 3, .sipush 255, []), (9, 1, .iand, []), (10, 1, .ireturn, [])]
def zu_X13_octet : List zf_U := []
set_option maxRecDepth 100000 in
set_option maxHeartbeats 4000000 in
theorem kc_X13_octet (l : Launch) (D : va_G) (k : Nat → ClassId) (B0 : Nat) (ad : Nat → Nat) (al sw : Nat) : zf_Con l yX13_octet (zw yX13_octet cX13_octet 2 (some .int)) ({ frames := 0, cells := 0, slots := 0, locals := 0 }) D k (zEx B0 ad al sw) zGT 37 zm_X13_octet := by
  have hEx := zEx_ok B0 ad al sw
  refine zf_mk (cc := cX13_octet) (nL := 2) (ret := (some .int)) (Ms := []) (fg := [(14, 11, 1, .inl (0, 0))]) (fp := []) (ins := zn_X13_octet) (cuts := zu_X13_octet) (fuel := 3000) (by decide) rfl hEx (by decide +kernel) (by decide +kernel) (by decide +kernel) (by decide +kernel) ?_
  intro p e s m args below meth c Q Sg w0 A θ0 S hK hE hAB hA hone hsing
  refine ⟨?_, ?_, ?_⟩
  · exact zf_ac ((fun H locs ws a q0 fs v rest pc ls hP he hv hdg kk => va_get (D := D) (ci := 11) (C := RX13) (T := TX13) (N := 47) (own := RX13) S.1 S.2.1 S.2.2.2.2 (zg_in inW_X13) S.2.2.2.1 hK hP q0 he rfl 1 (by decide) (S.2.2.2.2 (.fieldLink RX13 14 "RungMoneyModel" "tape" "[B") (List.mem_cons_of_mem _ zw_1349)) (fun _ h9 => h9) hv hdg kk)) zf_an
  · exact zf_an
  · exact zf_crl (xs := []) (by decide +kernel) (zf_an)
def zm_X13_draw : zf_M := (([(1, 2147483647)], [], 64, [], [.inl ([(0, 1)], 0), .inr (some (18, 18))], []), [(18, ([], 22), ([], 22))], [(some (.inl ([(1, 1)], 0)), ([(1, 2147483647), (0, 2147483646)], [([(0, 1), (1, (-1))], (-1)), ([(0, 1), (1, (-1))], 0)], 64, [], [], []))])
def zn_X13_draw : List zf_X := [(0, 1, .aload_n 0, []), (1, 1, .aload_n 0, []), (2, 3, .getfield 296, []), (5, 3, .ldc_w 299, [0]), (8, 1, .imul, []), (9, 3, .sipush 12345, []), (12, 1, .iadd, []), (13, 3, .putfield 296, []), (16, 1, .aload_n 0, []), (17, 3, .getfield 296, []), (20, 2, .bipush 8, []), (22, 1, .iushr, []), (23, 1, .iload_n 1, []), (24, 1, .irem, []), (25, 1, .ireturn, [])]
def zu_X13_draw : List zf_U := []
theorem zw_1750 : (Jvm.Cond.constant RX13 299 1103515245) ∈ lw_g := lw_t7 rfl (List.mem_of_getElem? (i := 216) rfl)
theorem zw_1370 : (Jvm.Cond.fieldLink RX13 296 "RungMoneyModel" "seed" "I") ∈ lw_g := lw_t6 rfl (List.mem_of_getElem? (i := 76) rfl)
set_option maxRecDepth 100000 in
set_option maxHeartbeats 4000000 in
theorem kc_X13_draw (l : Launch) (D : va_G) (k : Nat → ClassId) (B0 : Nat) (ad : Nat → Nat) (al sw : Nat) : zf_Con l yX13_draw (zw yX13_draw cX13_draw 2 (some .int)) ({ frames := 0, cells := 0, slots := 0, locals := 0 }) D k (zEx B0 ad al sw) zGT 37 zm_X13_draw := by
  have hEx := zEx_ok B0 ad al sw
  refine zf_mk (cc := cX13_draw) (nL := 2) (ret := (some .int)) (Ms := [zf_mC 1103515245]) (fg := [(296, 11, 22, .inl (0, 0))]) (fp := [(296, 11, 22, .inl ((-2147483648), 2147483647))]) (ins := zn_X13_draw) (cuts := zu_X13_draw) (fuel := 3000) (by decide) rfl hEx (by decide +kernel) (by decide +kernel) (by decide +kernel) (by decide +kernel) ?_
  intro p e s m args below meth c Q Sg w0 A θ0 S hK hE hAB hA hone hsing
  refine ⟨?_, ?_, ?_⟩
  · exact zf_ac ((fun H locs ws a q0 fs v rest pc ls hP he hv hdg kk => va_get (D := D) (ci := 11) (C := RX13) (T := TX13) (N := 47) (own := RX13) S.1 S.2.1 S.2.2.2.2 (zg_in inW_X13) S.2.2.2.1 hK hP q0 he rfl 22 (by decide) (S.2.2.2.2 (.fieldLink RX13 296 "RungMoneyModel" "seed" "I") (List.mem_cons_of_mem _ zw_1370)) (fun _ h9 => h9) hv hdg kk)) zf_an
  · exact zf_ac ((fun H locs ws a q0 fs v rest pc ls hP hD hS he hl hv hdg kk => by obtain ⟨x, rfl, h1, h2⟩ := hv; exact va_put (D := D) (ci := 11) (v := .int x) (ty := .int) (C := RX13) (T := TX13) (N := 47) (own := RX13) S.1 S.2.1 S.2.2.2.2 (zg_in inW_X13) tyX13 tyX13_ok nmX13 S.2.2.2.1 hK hP hD hS q0 he rfl 22 (by decide) (S.2.2.2.2 (.fieldLink RX13 296 "RungMoneyModel" "seed" "I") (List.mem_cons_of_mem _ zw_1370)) (fun _ h9 => h9) rfl (by decide +kernel) rfl rfl hl hdg kk)) zf_an
  · exact zf_crl (xs := [(.ldc_w 299, 3, 0)]) (by decide +kernel) (zf_ac (zf_crldcw (own := RX13) S.1 S.2.1 S.2.2.2.1 (v := 1103515245) (S.2.2.2.2 (.constant RX13 299 1103515245) (List.mem_cons_of_mem _ zw_1750)) 1103515245 (by decide)) zf_an)
def zm_X13_peek_vin : zf_M := (([(0, 940), (0, 940), ((-128), 127)], [([(0, (-1)), (1, 1)], (-1))], 64, [], [.inr (some (18, 18))], [(18, 18, ([], 4), .inl ([(0, 1)], 0)), (18, 18, ([], 3), .inl ([(1, 1)], 0)), (19, 19, ([(0, 1)], 0), .inl ([(2, 1)], 0))]), [], [(some (.inl ([(2, 1)], 256)), ([(0, 939), (1, 940), ((-128), (-1))], [([(0, (-1)), (1, 1)], (-1))], 64, [], [], [])), (some (.inl ([(2, 1)], 0)), ([(0, 939), (1, 940), (0, 127)], [([(0, (-1)), (1, 1)], (-1))], 64, [], [], []))])
def zn_X13_peek_vin : List zf_X := [(0, 1, .aload_n 0, []), (1, 3, .getfield 21, []), (4, 1, .aload_n 0, []), (5, 3, .getfield 18, []), (8, 3, .if_icmp .ge 19, []), (11, 1, .aload_n 0, []), (12, 3, .getfield 14, []), (15, 1, .aload_n 0, []), (16, 3, .getfield 21, []), (19, 1, .baload, []), (20, 3, .sipush 255, []), (23, 1, .iand, [0]), (24, 3, .goto 4, []), (27, 1, .iconst (-1), []), (28, 1, .ireturn, [])]
def zu_X13_peek_vin : List zf_U := []
set_option maxRecDepth 100000 in
set_option maxHeartbeats 4000000 in
theorem kc_X13_peek_vin (l : Launch) (D : va_G) (k : Nat → ClassId) (B0 : Nat) (ad : Nat → Nat) (al sw : Nat) : zf_Con l yX13_peek (zw yX13_peek cX13_peek 1 (some .int)) ({ frames := 0, cells := 0, slots := 0, locals := 0 }) D k (zEx B0 ad al sw) zGT 37 zm_X13_peek_vin := by
  have hEx := zEx_ok B0 ad al sw
  refine zf_mk (cc := cX13_peek) (nL := 1) (ret := (some .int)) (Ms := [zh_and255]) (fg := [(14, 11, 1, .inl (0, 0)), (18, 11, 3, .inl (0, 0)), (21, 11, 4, .inl (0, 0))]) (fp := []) (ins := zn_X13_peek_vin) (cuts := zu_X13_peek_vin) (fuel := 3000) (by decide) rfl hEx (by decide +kernel) (by decide +kernel) (by decide +kernel) (by decide +kernel) ?_
  intro p e s m args below meth c Q Sg w0 A θ0 S hK hE hAB hA hone hsing
  refine ⟨?_, ?_, ?_⟩
  · exact zf_ac ((fun H locs ws a q0 fs v rest pc ls hP he hv hdg kk => va_get (D := D) (ci := 11) (C := RX13) (T := TX13) (N := 47) (own := RX13) S.1 S.2.1 S.2.2.2.2 (zg_in inW_X13) S.2.2.2.1 hK hP q0 he rfl 1 (by decide) (S.2.2.2.2 (.fieldLink RX13 14 "RungMoneyModel" "tape" "[B") (List.mem_cons_of_mem _ zw_1349)) (fun _ h9 => h9) hv hdg kk)) (zf_ac ((fun H locs ws a q0 fs v rest pc ls hP he hv hdg kk => va_get (D := D) (ci := 11) (C := RX13) (T := TX13) (N := 47) (own := RX13) S.1 S.2.1 S.2.2.2.2 (zg_in inW_X13) S.2.2.2.1 hK hP q0 he rfl 3 (by decide) (S.2.2.2.2 (.fieldLink RX13 18 "RungMoneyModel" "size" "I") (List.mem_cons_of_mem _ zw_1351)) (fun _ h9 => h9) hv hdg kk)) (zf_ac ((fun H locs ws a q0 fs v rest pc ls hP he hv hdg kk => va_get (D := D) (ci := 11) (C := RX13) (T := TX13) (N := 47) (own := RX13) S.1 S.2.1 S.2.2.2.2 (zg_in inW_X13) S.2.2.2.1 hK hP q0 he rfl 4 (by decide) (S.2.2.2.2 (.fieldLink RX13 21 "RungMoneyModel" "p" "I") (List.mem_cons_of_mem _ zw_1352)) (fun _ h9 => h9) hv hdg kk)) zf_an))
  · exact zf_an
  · exact zf_crl (xs := [(.iand, 1, 0)]) (by decide +kernel) (zf_ac (zf_crAN S.1 S.2.1 hone hsing (a := ([(0, 1)], 0)) (b := ([], 255)) rfl zh_and255_c zh_and255_r) zf_an)
def zm_X13_peek : zf_M := (([(0, 940), (0, 940)], [], 64, [], [.inr (some (18, 18))], [(18, 18, ([], 4), .inl ([(0, 1)], 0)), (18, 18, ([], 3), .inl ([(1, 1)], 0))]), [], [(some (.inl ([(2, 1)], 256)), ([(0, 939), (1, 940), ((-128), (-1))], [([(0, (-1)), (1, 1)], (-1))], 64, [], [], [(19, 19, ([(0, 1)], 0), .inl ([(2, 1)], 0))])), (some (.inl ([(2, 1)], 0)), ([(0, 939), (1, 940), (0, 127)], [([(0, (-1)), (1, 1)], (-1))], 64, [], [], [(19, 19, ([(0, 1)], 0), .inl ([(2, 1)], 0))])), (some (.inl ([], (-1))), ([(0, 940), (0, 940)], [([(0, 1), (1, (-1))], 0)], 64, [], [], []))])
def zn_X13_peek : List zf_X := [(0, 1, .aload_n 0, []), (1, 3, .getfield 21, []), (4, 1, .aload_n 0, []), (5, 3, .getfield 18, []), (8, 3, .if_icmp .ge 19, []), (11, 1, .aload_n 0, []), (12, 3, .getfield 14, []), (15, 1, .aload_n 0, []), (16, 3, .getfield 21, []), (19, 1, .baload, []), (20, 3, .sipush 255, []), (23, 1, .iand, [0]), (24, 3, .goto 4, []), (27, 1, .iconst (-1), []), (28, 1, .ireturn, [])]
def zu_X13_peek : List zf_U := []
set_option maxRecDepth 100000 in
set_option maxHeartbeats 4000000 in
theorem kc_X13_peek (l : Launch) (D : va_G) (k : Nat → ClassId) (B0 : Nat) (ad : Nat → Nat) (al sw : Nat) : zf_Con l yX13_peek (zw yX13_peek cX13_peek 1 (some .int)) ({ frames := 0, cells := 0, slots := 0, locals := 0 }) D k (zEx B0 ad al sw) zGT 37 zm_X13_peek := by
  have hEx := zEx_ok B0 ad al sw
  refine zf_mk (cc := cX13_peek) (nL := 1) (ret := (some .int)) (Ms := [zh_and255]) (fg := [(14, 11, 1, .inl (0, 0)), (18, 11, 3, .inl (0, 0)), (21, 11, 4, .inl (0, 0))]) (fp := []) (ins := zn_X13_peek) (cuts := zu_X13_peek) (fuel := 3000) (by decide) rfl hEx (by decide +kernel) (by decide +kernel) (by decide +kernel) (by decide +kernel) ?_
  intro p e s m args below meth c Q Sg w0 A θ0 S hK hE hAB hA hone hsing
  refine ⟨?_, ?_, ?_⟩
  · exact zf_ac ((fun H locs ws a q0 fs v rest pc ls hP he hv hdg kk => va_get (D := D) (ci := 11) (C := RX13) (T := TX13) (N := 47) (own := RX13) S.1 S.2.1 S.2.2.2.2 (zg_in inW_X13) S.2.2.2.1 hK hP q0 he rfl 1 (by decide) (S.2.2.2.2 (.fieldLink RX13 14 "RungMoneyModel" "tape" "[B") (List.mem_cons_of_mem _ zw_1349)) (fun _ h9 => h9) hv hdg kk)) (zf_ac ((fun H locs ws a q0 fs v rest pc ls hP he hv hdg kk => va_get (D := D) (ci := 11) (C := RX13) (T := TX13) (N := 47) (own := RX13) S.1 S.2.1 S.2.2.2.2 (zg_in inW_X13) S.2.2.2.1 hK hP q0 he rfl 3 (by decide) (S.2.2.2.2 (.fieldLink RX13 18 "RungMoneyModel" "size" "I") (List.mem_cons_of_mem _ zw_1351)) (fun _ h9 => h9) hv hdg kk)) (zf_ac ((fun H locs ws a q0 fs v rest pc ls hP he hv hdg kk => va_get (D := D) (ci := 11) (C := RX13) (T := TX13) (N := 47) (own := RX13) S.1 S.2.1 S.2.2.2.2 (zg_in inW_X13) S.2.2.2.1 hK hP q0 he rfl 4 (by decide) (S.2.2.2.2 (.fieldLink RX13 21 "RungMoneyModel" "p" "I") (List.mem_cons_of_mem _ zw_1352)) (fun _ h9 => h9) hv hdg kk)) zf_an))
  · exact zf_an
  · exact zf_crl (xs := [(.iand, 1, 0)]) (by decide +kernel) (zf_ac (zf_crAN S.1 S.2.1 hone hsing (a := ([(0, 1)], 0)) (b := ([], 255)) rfl zh_and255_c zh_and255_r) zf_an)
def zm_X13_isSmall : zf_M := (([((-2147483648), 2147483647)], [], 64, [], [.inl ([(0, 1)], 0)], []), [], [(some (.inl ([], 1)), ([(97, 122)], [], 64, [], [], [])), (some (.inl ([], 0)), ([(123, 2147483647)], [], 64, [], [], [])), (some (.inl ([], 0)), ([((-2147483648), 96)], [], 64, [], [], []))])
def zn_X13_isSmall : List zf_X := [(0, 1, .iload_n 0, []), (1, 2, .bipush 97, []), (3, 3, .if_icmp .lt 13, []), (6, 1, .iload_n 0, []), (7, 2, .bipush 122, []), (9, 3, .if_icmp .gt 7, []), (12, 1, .iconst 1, []), (13, 3, .goto 4, []), (16, 1, .iconst 0, []), (17, 1, .ireturn, [])]
def zu_X13_isSmall : List zf_U := []
set_option maxRecDepth 100000 in
set_option maxHeartbeats 4000000 in
theorem kc_X13_isSmall (l : Launch) (D : va_G) (k : Nat → ClassId) (B0 : Nat) (ad : Nat → Nat) (al sw : Nat) : zf_Con l yX13_isSmall (zw yX13_isSmall cX13_isSmall 1 (some .boolean)) ({ frames := 0, cells := 0, slots := 0, locals := 0 }) D k (zEx B0 ad al sw) zGT 37 zm_X13_isSmall := by
  have hEx := zEx_ok B0 ad al sw
  refine zf_mk (cc := cX13_isSmall) (nL := 1) (ret := (some .boolean)) (Ms := []) (fg := []) (fp := []) (ins := zn_X13_isSmall) (cuts := zu_X13_isSmall) (fuel := 3000) (by decide) rfl hEx (by decide +kernel) (by decide +kernel) (by decide +kernel) (by decide +kernel) ?_
  intro p e s m args below meth c Q Sg w0 A θ0 S hK hE hAB hA hone hsing
  refine ⟨?_, ?_, ?_⟩
  · exact zf_an
  · exact zf_an
  · exact zf_crl (xs := []) (by decide +kernel) (zf_an)
def zm_X13_isDigit : zf_M := (([((-2147483648), 2147483647)], [], 64, [], [.inl ([(0, 1)], 0)], []), [], [(some (.inl ([], 1)), ([(48, 57)], [], 64, [], [], [])), (some (.inl ([], 0)), ([(58, 2147483647)], [], 64, [], [], [])), (some (.inl ([], 0)), ([((-2147483648), 47)], [], 64, [], [], []))])
def zn_X13_isDigit : List zf_X := [(0, 1, .iload_n 0, []), (1, 2, .bipush 48, []), (3, 3, .if_icmp .lt 13, []), (6, 1, .iload_n 0, []), (7, 2, .bipush 57, []), (9, 3, .if_icmp .gt 7, []), (12, 1, .iconst 1, []), (13, 3, .goto 4, []), (16, 1, .iconst 0, []), (17, 1, .ireturn, [])]
def zu_X13_isDigit : List zf_U := []
set_option maxRecDepth 100000 in
set_option maxHeartbeats 4000000 in
theorem kc_X13_isDigit (l : Launch) (D : va_G) (k : Nat → ClassId) (B0 : Nat) (ad : Nat → Nat) (al sw : Nat) : zf_Con l yX13_isDigit (zw yX13_isDigit cX13_isDigit 1 (some .boolean)) ({ frames := 0, cells := 0, slots := 0, locals := 0 }) D k (zEx B0 ad al sw) zGT 37 zm_X13_isDigit := by
  have hEx := zEx_ok B0 ad al sw
  refine zf_mk (cc := cX13_isDigit) (nL := 1) (ret := (some .boolean)) (Ms := []) (fg := []) (fp := []) (ins := zn_X13_isDigit) (cuts := zu_X13_isDigit) (fuel := 3000) (by decide) rfl hEx (by decide +kernel) (by decide +kernel) (by decide +kernel) (by decide +kernel) ?_
  intro p e s m args below meth c Q Sg w0 A θ0 S hK hE hAB hA hone hsing
  refine ⟨?_, ?_, ?_⟩
  · exact zf_an
  · exact zf_an
  · exact zf_crl (xs := []) (by decide +kernel) (zf_an)
def zm_X13_next_v0 : zf_M := (([], [], 64, [], [.inr (some (18, 18))], []), [(18, ([], 4), ([], 4)), (18, ([], 17), ([], 17)), (18, ([], 11), ([], 14))], [(none, ([(1, 12), (0, 940)], [([(0, (-1)), (1, (-1))], 940)], 64, [], [], [(18, 18, ([], 13), .inl ([(0, 1)], 0)), (18, 18, ([], 12), .inl ([(1, 1)], 0)), (18, 18, ([], 11), .inl ([], 1))])), (none, ([((-2147483648), 0)], [], 64, [], [], [(18, 18, ([], 11), .inl ([(0, 1)], 0))])), (none, ([(2, 2147483647)], [], 64, [], [], [(18, 18, ([], 11), .inl ([(0, 1)], 0))]))])
def zn_X13_next_v0 : List zf_X := [(0, 1, .aload_n 0, []), (1, 3, .invokevirtual 130, [0, 1]), (4, 2, .bipush 32, []), (6, 3, .if_icmp .eq 12, []), (9, 1, .aload_n 0, []), (10, 3, .invokevirtual 130, [0, 1]), (13, 2, .bipush 10, []), (15, 3, .if_icmp .ne 16, []), (18, 1, .aload_n 0, []), (19, 1, .dup, []), (20, 3, .getfield 21, []), (23, 1, .iconst 1, []), (24, 1, .iadd, []), (25, 3, .putfield 21, []), (28, 3, .goto (-28), []), (31, 1, .aload_n 0, []), (32, 1, .aload_n 0, []), (33, 3, .getfield 21, []), (36, 3, .putfield 134, []), (39, 1, .aload_n 0, []), (40, 1, .iconst 0, []), (41, 3, .putfield 137, []), (44, 1, .aload_n 0, []), (45, 3, .getfield 18, []), (48, 1, .aload_n 0, []), (49, 3, .getfield 24, []), (52, 3, .if_icmp .le 28, []), (55, 1, .aload_n 0, []), (56, 3, .getfield 21, []), (59, 1, .aload_n 0, []), (60, 3, .getfield 24, []), (63, 3, .if_icmp .lt 17, []), (66, 1, .aload_n 0, []), (67, 1, .aload_n 0, []), (68, 3, .getfield 24, []), (71, 3, .putfield 134, []), (74, 1, .aload_n 0, []), (75, 1, .iconst 4, []), (76, 3, .putfield 140, []), (79, 1, .return_, []), (80, 1, .aload_n 0, []), (81, 3, .invokevirtual 130, [0, 1]), (84, 1, .istore_n 1, []), (85, 1, .iload_n 1, []), (86, 3, .ifCond .ge 9, []), (89, 1, .aload_n 0, []), (90, 1, .iconst 0, []), (91, 3, .putfield 140, []), (94, 1, .return_, []), (95, 1, .iload_n 1, []), (96, 3, .invokestatic 143, [2]), (99, 3, .ifCond .ne 65, []), (102, 1, .iload_n 1, []), (103, 3, .invokestatic 147, [3]), (106, 3, .ifCond .ne 58, []), (109, 1, .aload_n 0, []), (110, 1, .iload_n 1, []), (111, 2, .bipush 59, []), (113, 3, .if_icmp .eq 27, []), (116, 1, .iload_n 1, []), (117, 2, .bipush 40, []), (119, 3, .if_icmp .eq 21, []), (122, 1, .iload_n 1, []), (123, 2, .bipush 41, []), (125, 3, .if_icmp .eq 15, []), (128, 1, .iload_n 1, []), (129, 2, .bipush 60, []), (131, 3, .if_icmp .lt 13, []), (134, 1, .iload_n 1, []), (135, 2, .bipush 62, []), (137, 3, .if_icmp .gt 7, []), (140, 1, .iconst 3, []), (141, 3, .goto 4, []), (144, 1, .iconst 4, []), (145, 3, .putfield 140, []), (148, 1, .aload_n 0, []), (149, 1, .iload_n 1, []), (150, 3, .putfield 150, []), (153, 1, .aload_n 0, []), (154, 1, .dup, []), (155, 3, .getfield 21, []), (158, 1, .iconst 1, []), (159, 1, .iadd, []), (160, 3, .putfield 21, []), (163, 1, .return_, []), (164, 1, .iload_n 1, []), (165, 3, .invokestatic 143, [2]), (168, 1, .istore_n 2, []), (169, 1, .iconst 1, []), (170, 1, .istore_n 3, []), (171, 1, .aload_n 0, []), (172, 1, .lconst 0, []), (173, 3, .putfield 153, []), (176, 1, .aload_n 0, []), (177, 1, .iconst 0, []), (178, 3, .putfield 150, []), (181, 1, .aload_n 0, []), (182, 3, .invokevirtual 130, [0, 1]), (185, 3, .invokestatic 143, [2]), (188, 3, .ifCond .ne 13, []), (191, 1, .aload_n 0, []), (192, 3, .invokevirtual 130, [0, 1]), (195, 3, .invokestatic 147, [3]), (198, 3, .ifCond .eq 100, []), (201, 1, .iload_n 3, []), (202, 3, .ifCond .eq 18, []), (205, 1, .aload_n 0, []), (206, 3, .invokevirtual 130, [0]), (209, 3, .invokestatic 143, [2]), (212, 1, .iload_n 2, []), (213, 3, .if_icmp .ne 7, []), (216, 1, .iconst 1, []), (217, 3, .goto 4, []), (220, 1, .iconst 0, []), (221, 1, .istore_n 3, []), (222, 1, .aload_n 0, []), (223, 3, .getfield 137, []), (226, 2, .bipush 7, []), (228, 3, .if_icmp .ge 20, []), (231, 1, .aload_n 0, []), (232, 1, .aload_n 0, []), (233, 3, .getfield 153, []), (236, 2, .bipush 8, []), (238, 1, .lshl, []), (239, 1, .aload_n 0, []), (240, 3, .invokevirtual 130, [0]), (243, 1, .i2l, []), (244, 1, .lor, []), (245, 3, .putfield 153, []), (248, 1, .aload_n 0, []), (249, 3, .getfield 137, []), (252, 1, .iconst 3, []), (253, 3, .if_icmp .ge 22, []), (256, 1, .aload_n 0, []), (257, 2, .bipush 10, []), (259, 1, .aload_n 0, []), (260, 3, .getfield 150, []), (263, 1, .imul, []), (264, 1, .aload_n 0, []), (265, 3, .invokevirtual 130, [0]), (268, 1, .iadd, []), (269, 2, .bipush 48, []), (271, 1, .isub, []), (272, 3, .putfield 150, []), (275, 1, .aload_n 0, []), (276, 1, .dup, []), (277, 3, .getfield 137, []), (280, 1, .iconst 1, []), (281, 1, .iadd, []), (282, 3, .putfield 137, []), (285, 1, .aload_n 0, []), (286, 1, .dup, []), (287, 3, .getfield 21, []), (290, 1, .iconst 1, []), (291, 1, .iadd, []), (292, 3, .putfield 21, []), (295, 3, .goto (-114), []), (298, 1, .aload_n 0, []), (299, 3, .getfield 137, []), (302, 2, .bipush 7, []), (304, 3, .if_icmp .le 10, []), (307, 1, .aload_n 0, []), (308, 3, .ldc2_w 157, [4]), (311, 3, .putfield 153, []), (314, 1, .aload_n 0, []), (315, 1, .iload_n 3, []), (316, 3, .ifCond .eq 20, []), (319, 1, .aload_n 0, []), (320, 3, .getfield 137, []), (323, 1, .iload_n 2, []), (324, 3, .ifCond .eq 8, []), (327, 2, .bipush 12, []), (329, 3, .goto 4, []), (332, 1, .iconst 3, []), (333, 3, .if_icmp .le 7, []), (336, 1, .iconst 4, []), (337, 3, .goto 12, []), (340, 1, .iload_n 2, []), (341, 3, .ifCond .eq 7, []), (344, 1, .iconst 1, []), (345, 3, .goto 4, []), (348, 1, .iconst 2, []), (349, 3, .putfield 140, []), (352, 1, .return_, [])]
def zu_X13_next_v0 : List zf_U := [(0, ([(0, 940), (0, 940)], [], 64, [(0, .inr (some (18, 18)))], [], [(18, 18, ([], 4), .inl ([(0, 1)], 0)), (18, 18, ([], 3), .inl ([(1, 1)], 0))]), ([(0, (-1))], 941), 0),
  (295, ([(0, 1), (0, 1), (0, 940), (0, 940), (0, 940), (1, 940)], [([(2, 1), (4, (-1)), (5, (-1))], 0), ([(2, (-1)), (4, 1), (5, 1)], 0)], 64, [(0, .inr (some (18, 18))), (2, .inl ([(0, 1)], 0)), (3, .inl ([(1, 1)], 0))], [], [(18, 18, ([], 4), .inl ([(2, 1)], 0)), (18, 18, ([], 3), .inl ([(3, 1)], 0)), (18, 18, ([], 12), .inl ([(4, 1)], 0)), (18, 18, ([], 13), .inl ([(5, 1)], 0))]), ([(2, (-1))], 940), 0)]

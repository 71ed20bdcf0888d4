def zGT : List zf_G := [(false, 10, [(1, .inr (some 1)), (2, .inr (some 3)), (3, .inr (some 4)), (4, .inr (some 64)), (5, .inr (some 64)), (6, .inr (some 76)), (7, .inr (some 76)), (8, .inr (some 5)), (9, .inr (some 10)), (10, .inr (some 12)), (11, .inr (some 14)), (12, .inr (some 15)), (13, .inr (some 16)), (14, .inr (some 17)), (15, .inl ((-2147483648), 2147483647)), (16, .inl ((-2147483648), 2147483647)), (17, .inl ((-2147483648), 2147483647)), (18, .inl ((-2147483648), 2147483647))]),
  (false, 7, [(1, .inr (some 2)), (2, .inl (0, 940))]),
  (true, 0, [(940, .inl ((-2147483648), 2147483647))]),
  (false, 5, [(1, .inr (some 1)), (2, .inl (0, 940)), (3, .inl (0, 940)), (4, .inl (0, 940)), (5, .inl ((-2147483648), 2147483647)), (6, .inr none), (7, .inl ((-2147483648), 2147483647)), (8, .inl ((-2147483648), 2147483647)), (9, .inl ((-2147483648), 2147483647)), (10, .inl ((-2147483648), 2147483647)), (11, .inl ((-2147483648), 2147483647))]),
  (false, 9, [(1, .inr (some 3)), (2, .inl ((-2147483648), 2147483647)), (3, .inl (0, 1)), (4, .inl ((-2147483648), 2147483647))]),
  (false, 2, [(1, .inr (some 6)), (2, .inr (some 7)), (3, .inr (some 8)), (4, .inr (some 9)), (5, .inl (0, 40)), (6, .inl (0, 40)), (7, .inl ((-2147483648), 2147483647))]),
  (true, 6, [(40, .inr (some 128))]),
  (true, 0, [(40, .inl ((-2147483648), 2147483647))]),
  (true, 0, [(40, .inl ((-2147483648), 2147483647))]),
  (true, 0, [(40, .inl ((-2147483648), 2147483647))]),
  (false, 3, [(1, .inr (some 11)), (2, .inl (0, 8)), (3, .inl (0, 8))]),
  (true, 4, [(9, .inr (some 64))]),
  (false, 4, [(1, .inr (some 13))]),
  (true, 0, [(513, .inl ((-2147483648), 2147483647))]),
  (true, 4, [(2, .inr (some 64))]),
  (true, 5, [(2, .inr (some 76))]),
  (true, 2, [(2, .inl (0, 1))]),
  (true, 0, [(4, .inl ((-2147483648), 2147483647))]),
  (false, 11, [(1, .inl ((-2147483648), 2147483647)), (2, .inr (some 19)), (3, .inl (0, 940)), (4, .inl (0, 940)), (5, .inl (0, 940)), (6, .inl (0, 940)), (7, .inr (some 20)), (8, .inr (some 21)), (9, .inr (some 22)), (10, .inr (some 23)), (11, .inr (some 24)), (12, .inl ((-2147483648), 2147483647)), (13, .inl (0, 940)), (14, .inl (0, 940)), (15, .inl ((-2147483648), 2147483647)), (16, .inl ((-2147483648), 2147483647)), (17, .inl ((-2147483648), 2147483647)), (18, .inr none), (19, .inl ((-2147483648), 2147483647)), (20, .inl ((-2147483648), 2147483647)), (21, .inl (0, 20)), (22, .inl (0, 1)), (23, .inl ((-2147483648), 2147483647)), (24, .inr (some 26)), (25, .inr (some 27)), (26, .inl (0, 8)), (27, .inr (some 28)), (28, .inr (some 29)), (29, .inl ((-2147483648), 2147483647)), (30, .inl ((-2147483648), 2147483647)), (31, .inl (0, 1)), (32, .inr (some 25)), (33, .inl ((-2147483648), 2147483647)), (34, .inl (0, 1)), (35, .inl (0, 40)), (36, .inr (some 30)), (37, .inl (0, 1)), (38, .inr (some 31)), (39, .inl (0, 44)), (40, .inl (0, 20)), (41, .inl (0, 44)), (42, .inl ((-2147483648), 2147483647)), (43, .inl (0, 1)), (44, .inr (some 32)), (45, .inr (some 33)), (46, .inr (some 34)), (47, .inr (some 35))]),
  (true, 3, [(940, .inl ((-128), 127))]),
  (true, 0, [(1, .inl (0, 6)), (2, .inl (0, 16)), (19, .inl ((-2147483648), 2147483647)), (35, .inl (0, 12)), (87, .inl ((-2147483648), 2147483647)), (88, .inl (0, 16)), (107, .inl ((-2147483648), 2147483647)), (123, .inl (0, 32)), (693, .inl ((-2147483648), 2147483647)), (694, .inl (0, 44)), (874, .inl ((-2147483648), 2147483647))]),
  (true, 0, [(1, .inl (0, 6)), (2, .inl (0, 16)), (19, .inl ((-2147483648), 2147483647)), (35, .inl (0, 12)), (87, .inl ((-2147483648), 2147483647))]),
  (true, 0, [(160, .inl ((-2147483648), 2147483647))]),
  (true, 1, [(12, .inr none)]),
  (true, 1, [(23, .inr none)]),
  (true, 0, [(16, .inl ((-2147483648), 2147483647))]),
  (true, 0, [(1, .inl (0, 16)), (20, .inl ((-2147483648), 2147483647)), (36, .inl (0, 32)), (606, .inl ((-2147483648), 2147483647)), (607, .inl (0, 16)), (626, .inl ((-2147483648), 2147483647)), (642, .inl (0, 32)), (1212, .inl ((-2147483648), 2147483647)), (1213, .inl (0, 16)), (1232, .inl ((-2147483648), 2147483647)), (1248, .inl (0, 32)), (1818, .inl ((-2147483648), 2147483647)), (1819, .inl (0, 16)), (1838, .inl ((-2147483648), 2147483647)), (1854, .inl (0, 32)), (2424, .inl ((-2147483648), 2147483647)), (2425, .inl (0, 16)), (2444, .inl ((-2147483648), 2147483647)), (2460, .inl (0, 32)), (3030, .inl ((-2147483648), 2147483647)), (3031, .inl (0, 16)), (3050, .inl ((-2147483648), 2147483647)), (3066, .inl (0, 32)), (3636, .inl ((-2147483648), 2147483647)), (3637, .inl (0, 16)), (3656, .inl ((-2147483648), 2147483647)), (3672, .inl (0, 32)), (4242, .inl ((-2147483648), 2147483647)), (4243, .inl (0, 16)), (4262, .inl ((-2147483648), 2147483647)), (4278, .inl (0, 32)), (4848, .inl ((-2147483648), 2147483647))]),
  (true, 0, [(1, .inl (0, 16)), (20, .inl ((-2147483648), 2147483647)), (36, .inl (0, 32)), (606, .inl ((-2147483648), 2147483647))]),
  (true, 0, [(36, .inl ((-2147483648), 2147483647))]),
  (true, 0, [(6, .inl ((-2147483648), 2147483647))]),
  (true, 0, [(4, .inl ((-2147483648), 2147483647))]),
  (true, 0, [(45, .inl ((-2147483648), 2147483647))]),
  (true, 2, [(45, .inl (0, 1))]),
  (true, 0, [(1, .inl (0, 6)), (2, .inl (0, 16)), (19, .inl ((-2147483648), 2147483647)), (35, .inl (0, 12)), (87, .inl ((-2147483648), 2147483647)), (88, .inl (0, 16)), (107, .inl ((-2147483648), 2147483647)), (123, .inl (0, 32)), (693, .inl ((-2147483648), 2147483647)), (694, .inl (0, 44)), (874, .inl ((-2147483648), 2147483647)), (875, .inl (0, 6)), (876, .inl (0, 16)), (893, .inl ((-2147483648), 2147483647)), (909, .inl (0, 12)), (961, .inl ((-2147483648), 2147483647)), (962, .inl (0, 16)), (981, .inl ((-2147483648), 2147483647)), (997, .inl (0, 32)), (1567, .inl ((-2147483648), 2147483647)), (1568, .inl (0, 44)), (1748, .inl ((-2147483648), 2147483647))]),
  (true, 1, [(12, .inr none)]),
  (true, 2, [(2, .inl (0, 1))]),
  (true, 1, [(1, .inr none)]),
  (false, 0, []),
  (false, 0, []),
  (false, 0, []),
  (false, 0, []),
  (false, 0, []),
  (false, 0, []),
  (false, 0, []),
  (false, 0, []),
  (false, 0, []),
  (false, 0, []),
  (false, 0, []),
  (false, 0, []),
  (false, 0, []),
  (false, 0, []),
  (false, 0, []),
  (false, 0, []),
  (false, 0, []),
  (false, 0, []),
  (false, 0, []),
  (false, 0, []),
  (false, 0, []),
  (false, 0, []),
  (false, 0, []),
  (false, 0, []),
  (false, 0, []),
  (false, 0, []),
  (false, 0, []),
  (false, 8, [(1, .inl (0, 6)), (2, .inr (some 65)), (3, .inr (some 66)), (4, .inr (some 72)), (5, .inr (some 75)), (6, .inl ((-2147483648), 2147483647)), (7, .inl ((-2147483648), 2147483647)), (8, .inl ((-2147483648), 2147483647)), (9, .inl ((-2147483648), 2147483647))]),
  (true, 1, [(6, .inr none)]),
  (false, 1, [(1, .inl (0, 16)), (2, .inr (some 67)), (3, .inr (some 68)), (4, .inr (some 69)), (5, .inr (some 70)), (6, .inr (some 71))]),
  (true, 0, [(16, .inl ((-2147483648), 2147483647))]),
  (true, 0, [(16, .inl ((-2147483648), 2147483647))]),
  (true, 0, [(16, .inl ((-2147483648), 2147483647))]),
  (true, 0, [(16, .inl ((-2147483648), 2147483647))]),
  (true, 0, [(16, .inl ((-2147483648), 2147483647))]),
  (false, 0, [(1, .inr (some 73)), (2, .inr (some 74))]),
  (true, 0, [(36, .inl ((-2147483648), 2147483647))]),
  (true, 0, [(6, .inl ((-2147483648), 2147483647))]),
  (true, 0, [(6, .inl ((-2147483648), 2147483647))]),
  (false, 6, [(1, .inr (some 77)), (2, .inr (some 78)), (3, .inr (some 79)), (4, .inr (some 80)), (5, .inl (0, 40)), (6, .inl ((-2147483648), 2147483647))]),
  (true, 6, [(40, .inr (some 128))]),
  (true, 0, [(40, .inl ((-2147483648), 2147483647))]),
  (true, 0, [(40, .inl ((-2147483648), 2147483647))]),
  (true, 0, [(40, .inl ((-2147483648), 2147483647))])]

theorem zf_01 {x : Int32} (h1 : (0 : Int) ≤ x.toInt) (h2 : x.toInt ≤ (1 : Int)) : x = 0 ∨ x = 1 := by
  rcases (by omega : x.toInt = 0 ∨ x.toInt = 1) with h | h
  · exact Or.inl (Int32.toInt_inj.mp (h.trans (by decide)))
  · exact Or.inr (Int32.toInt_inj.mp (h.trans (by decide)))
def zm_Jx29ce0_ordinal_8abf5 : zf_M := (([], [], 65, [], [.inr (some (128, 64))], []), [], [(some (.inl ([(0, 1)], 0)), ([(0, 23)], [], 65, [], [], []))])
def zn_Jx29ce0_ordinal_8abf5 : List zf_X := [(0, 1, .aload_n 0, []), (1, 3, .getfield 7, [0]), (4, 1, .ireturn, [])]
def zu_Jx29ce0_ordinal_8abf5 : List zf_U := []
theorem zw_1977 : (Jvm.Cond.fieldLink RJx29ce0 7 "java/lang/Enum" "ordinal" "I") ∈ lw_g := lw_t8 rfl (List.mem_of_getElem? (i := 203) rfl)
set_option maxRecDepth 100000 in
set_option maxHeartbeats 4000000 in
theorem kc_Jx29ce0_ordinal_8abf5 (l : Launch) (D : va_G) (k : Nat → ClassId) (B0 : Nat) (ad : Nat → Nat) (al sw : Nat) : zf_Con l yJx29ce0_ordinal_8abf5 (zw yJx29ce0_ordinal_8abf5 cJx29ce0_ordinal_8abf5 1 (some .int)) ({ frames := 0, cells := 0, slots := 0, locals := 0 }) D k (zEx B0 ad al sw) zGT 37 zm_Jx29ce0_ordinal_8abf5 := by
  have hEx := zEx_ok B0 ad al sw
  refine zf_mk (cc := cJx29ce0_ordinal_8abf5) (nL := 1) (ret := (some .int)) (Ms := [zf_mKO]) (fg := []) (fp := []) (ins := zn_Jx29ce0_ordinal_8abf5) (cuts := zu_Jx29ce0_ordinal_8abf5) (fuel := 3000) (by decide) rfl hEx (by decide +kernel) (by decide +kernel) (by decide +kernel) (by decide +kernel) ?_
  intro p e s m args below meth c Q Sg w0 A θ0 S hK hE hAB hA hone hsing
  refine ⟨?_, ?_, ?_⟩
  · exact zf_an
  · exact zf_an
  · exact zf_crl (xs := [(.getfield 7, 3, 0)]) (by decide +kernel) (zf_ac (zf_crko S hE hAB (S.2.2.2.2 (.fieldLink RJx29ce0 7 "java/lang/Enum" "ordinal" "I") (List.mem_cons_of_mem _ zw_1977))) zf_an)
def zm_J7_fill_53178_vrows : zf_M := (([((-2147483648), 2147483647)], [], 65, [], [.inl ([(0, 1)], 0), .inr (some (73, 64))], []), [(73, ([], 0), ([], 35))], [(none, ([((-2147483648), 2147483647)], [], 65, [], [], []))])
def zn_J7_fill_53178_vrows : List zf_X := [(0, 1, .iconst 0, []), (1, 1, .istore_n 2, []), (2, 1, .aload_n 0, []), (3, 1, .arraylength, []), (4, 1, .istore_n 3, []), (5, 1, .iload_n 2, []), (6, 1, .iload_n 3, []), (7, 3, .if_icmp .ge 13, []), (10, 1, .aload_n 0, []), (11, 1, .iload_n 2, []), (12, 1, .iload_n 1, []), (13, 1, .iastore, []), (14, 3, .iinc 2 1, []), (17, 3, .goto (-12), []), (20, 1, .return_, [])]
def zu_J7_fill_53178_vrows : List zf_U := [(5, ([((-2147483648), 2147483647), (0, 36)], [], 65, [(0, .inr (some (73, 64))), (1, .inl ([(0, 1)], 0)), (2, .inl ([(1, 1)], 0)), (3, .inl ([], 36))], [], []), ([(1, (-1))], 37), 0)]
set_option maxRecDepth 100000 in
set_option maxHeartbeats 4000000 in
theorem kc_J7_fill_53178_vrows (l : Launch) (D : va_G) (k : Nat → ClassId) (B0 : Nat) (ad : Nat → Nat) (al sw : Nat) : zf_Con l yJ7_fill_53178 (zw yJ7_fill_53178 cJ7_fill_53178 4 none) ({ frames := 0, cells := 0, slots := 0, locals := 0 }) D k (zEx B0 ad al sw) zGT 37 zm_J7_fill_53178_vrows := by
  have hEx := zEx_ok B0 ad al sw
  refine zf_mk (cc := cJ7_fill_53178) (nL := 4) (ret := none) (Ms := []) (fg := []) (fp := []) (ins := zn_J7_fill_53178_vrows) (cuts := zu_J7_fill_53178_vrows) (fuel := 3000) (by decide) rfl hEx (by decide +kernel) (by decide +kernel) (by decide +kernel) (by decide +kernel) ?_
  intro p e s m args below meth c Q Sg w0 A θ0 S hK hE hAB hA hone hsing
  refine ⟨?_, ?_, ?_⟩
  · exact zf_an
  · exact zf_an
  · exact zf_crl (xs := []) (by decide +kernel) (zf_an)
def zm_J7_fill_53178_vpayments : zf_M := (([((-2147483648), 2147483647)], [], 65, [], [.inl ([(0, 1)], 0), .inr (some (75, 64))], []), [(75, ([], 0), ([], 5))], [(none, ([((-2147483648), 2147483647)], [], 65, [], [], []))])
def zn_J7_fill_53178_vpayments : List zf_X := [(0, 1, .iconst 0, []), (1, 1, .istore_n 2, []), (2, 1, .aload_n 0, []), (3, 1, .arraylength, []), (4, 1, .istore_n 3, []), (5, 1, .iload_n 2, []), (6, 1, .iload_n 3, []), (7, 3, .if_icmp .ge 13, []), (10, 1, .aload_n 0, []), (11, 1, .iload_n 2, []), (12, 1, .iload_n 1, []), (13, 1, .iastore, []), (14, 3, .iinc 2 1, []), (17, 3, .goto (-12), []), (20, 1, .return_, [])]
def zu_J7_fill_53178_vpayments : List zf_U := [(5, ([((-2147483648), 2147483647), (0, 6)], [], 65, [(0, .inr (some (75, 64))), (1, .inl ([(0, 1)], 0)), (2, .inl ([(1, 1)], 0)), (3, .inl ([], 6))], [], []), ([(1, (-1))], 7), 0)]
set_option maxRecDepth 100000 in
set_option maxHeartbeats 4000000 in
theorem kc_J7_fill_53178_vpayments (l : Launch) (D : va_G) (k : Nat → ClassId) (B0 : Nat) (ad : Nat → Nat) (al sw : Nat) : zf_Con l yJ7_fill_53178 (zw yJ7_fill_53178 cJ7_fill_53178 4 none) ({ frames := 0, cells := 0, slots := 0, locals := 0 }) D k (zEx B0 ad al sw) zGT 37 zm_J7_fill_53178_vpayments := by
  have hEx := zEx_ok B0 ad al sw
  refine zf_mk (cc := cJ7_fill_53178) (nL := 4) (ret := none) (Ms := []) (fg := []) (fp := []) (ins := zn_J7_fill_53178_vpayments) (cuts := zu_J7_fill_53178_vpayments) (fuel := 3000) (by decide) rfl hEx (by decide +kernel) (by decide +kernel) (by decide +kernel) (by decide +kernel) ?_
  intro p e s m args below meth c Q Sg w0 A θ0 S hK hE hAB hA hone hsing
  refine ⟨?_, ?_, ?_⟩
  · exact zf_an
  · exact zf_an
  · exact zf_crl (xs := []) (by decide +kernel) (zf_an)
def zm_J7_fill_53178_vcosts : zf_M := (([((-2147483648), 2147483647)], [], 64, [], [.inl ([(0, 1)], 0), .inr (some (13, 13))], []), [(13, ([], 0), ([], 512))], [(none, ([((-2147483648), 2147483647)], [], 64, [], [], []))])
def zn_J7_fill_53178_vcosts : List zf_X := [(0, 1, .iconst 0, []), (1, 1, .istore_n 2, []), (2, 1, .aload_n 0, []), (3, 1, .arraylength, []), (4, 1, .istore_n 3, []), (5, 1, .iload_n 2, []), (6, 1, .iload_n 3, []), (7, 3, .if_icmp .ge 13, []), (10, 1, .aload_n 0, []), (11, 1, .iload_n 2, []), (12, 1, .iload_n 1, []), (13, 1, .iastore, []), (14, 3, .iinc 2 1, []), (17, 3, .goto (-12), []), (20, 1, .return_, [])]
def zu_J7_fill_53178_vcosts : List zf_U := [(5, ([((-2147483648), 2147483647), (0, 513)], [], 64, [(0, .inr (some (13, 13))), (1, .inl ([(0, 1)], 0)), (2, .inl ([(1, 1)], 0)), (3, .inl ([], 513))], [], []), ([(1, (-1))], 514), 0)]
set_option maxRecDepth 100000 in
set_option maxHeartbeats 4000000 in
theorem kc_J7_fill_53178_vcosts (l : Launch) (D : va_G) (k : Nat → ClassId) (B0 : Nat) (ad : Nat → Nat) (al sw : Nat) : zf_Con l yJ7_fill_53178 (zw yJ7_fill_53178 cJ7_fill_53178 4 none) ({ frames := 0, cells := 0, slots := 0, locals := 0 }) D k (zEx B0 ad al sw) zGT 37 zm_J7_fill_53178_vcosts := by
  have hEx := zEx_ok B0 ad al sw
  refine zf_mk (cc := cJ7_fill_53178) (nL := 4) (ret := none) (Ms := []) (fg := []) (fp := []) (ins := zn_J7_fill_53178_vcosts) (cuts := zu_J7_fill_53178_vcosts) (fuel := 3000) (by decide) rfl hEx (by decide +kernel) (by decide +kernel) (by decide +kernel) (by decide +kernel) ?_
  intro p e s m args below meth c Q Sg w0 A θ0 S hK hE hAB hA hone hsing
  refine ⟨?_, ?_, ?_⟩
  · exact zf_an
  · exact zf_an
  · exact zf_crl (xs := []) (by decide +kernel) (zf_an)
def zm_J7_fill_53178_vtoldLast : zf_M := (([((-2147483648), 2147483647)], [], 64, [], [.inl ([(0, 1)], 0), .inr (some (17, 17))], []), [(17, ([], 0), ([], 3))], [(none, ([((-2147483648), 2147483647)], [], 64, [], [], []))])
def zn_J7_fill_53178_vtoldLast : List zf_X := [(0, 1, .iconst 0, []), (1, 1, .istore_n 2, []), (2, 1, .aload_n 0, []), (3, 1, .arraylength, []), (4, 1, .istore_n 3, []), (5, 1, .iload_n 2, []), (6, 1, .iload_n 3, []), (7, 3, .if_icmp .ge 13, []), (10, 1, .aload_n 0, []), (11, 1, .iload_n 2, []), (12, 1, .iload_n 1, []), (13, 1, .iastore, []), (14, 3, .iinc 2 1, []), (17, 3, .goto (-12), []), (20, 1, .return_, [])]
def zu_J7_fill_53178_vtoldLast : List zf_U := [(5, ([((-2147483648), 2147483647), (0, 4)], [], 64, [(0, .inr (some (17, 17))), (1, .inl ([(0, 1)], 0)), (2, .inl ([(1, 1)], 0)), (3, .inl ([], 4))], [], []), ([(1, (-1))], 5), 0)]
set_option maxRecDepth 100000 in
set_option maxHeartbeats 4000000 in
theorem kc_J7_fill_53178_vtoldLast (l : Launch) (D : va_G) (k : Nat → ClassId) (B0 : Nat) (ad : Nat → Nat) (al sw : Nat) : zf_Con l yJ7_fill_53178 (zw yJ7_fill_53178 cJ7_fill_53178 4 none) ({ frames := 0, cells := 0, slots := 0, locals := 0 }) D k (zEx B0 ad al sw) zGT 37 zm_J7_fill_53178_vtoldLast := by
  have hEx := zEx_ok B0 ad al sw
  refine zf_mk (cc := cJ7_fill_53178) (nL := 4) (ret := none) (Ms := []) (fg := []) (fp := []) (ins := zn_J7_fill_53178_vtoldLast) (cuts := zu_J7_fill_53178_vtoldLast) (fuel := 3000) (by decide) rfl hEx (by decide +kernel) (by decide +kernel) (by decide +kernel) (by decide +kernel) ?_
  intro p e s m args below meth c Q Sg w0 A θ0 S hK hE hAB hA hone hsing
  refine ⟨?_, ?_, ?_⟩
  · exact zf_an
  · exact zf_an
  · exact zf_crl (xs := []) (by decide +kernel) (zf_an)
def zm_X1_clear : zf_M := (([], [], 65, [], [.inr (some (72, 64))], []), [(73, ([], 0), ([], 35))], [(none, ([], [], 65, [], [], []))])
def zn_X1_clear : List zf_X := [(0, 1, .aload_n 0, []), (1, 3, .getfield 9, []), (4, 1, .iconst 0, []), (5, 3, .invokestatic 18, [0]), (8, 1, .return_, [])]
def zu_X1_clear : List zf_U := []
set_option maxRecDepth 100000 in
theorem inW_X1 : ∀ w ∈ wsX10, w ∈ lw_g := by decide +kernel
theorem zw_398 : (Jvm.Cond.code yJ7_fill_53178 cJ7_fill_53178 4 none) ∈ lw_g := lw_t2 rfl (List.mem_of_getElem? (i := 64) rfl)
theorem zw_487 : (Jvm.Cond.methodLink RX1 18 yJ7_fill_53178) ∈ lw_g := lw_t2 rfl (List.mem_of_getElem? (i := 153) rfl)
theorem zw_397 : (Jvm.Cond.static yJ7_fill_53178) ∈ lw_g := lw_t2 rfl (List.mem_of_getElem? (i := 63) rfl)
theorem zw_108 : (Jvm.Cond.initialized RJ7) ∈ lw_g := lw_t1 rfl (List.mem_of_getElem? (i := 14) rfl)
theorem zw_256 : (Jvm.Cond.fieldLink RX1 9 "RungMoney$Debts" "rows" "[I") ∈ lw_g := lw_t1 rfl (List.mem_of_getElem? (i := 162) rfl)
set_option maxRecDepth 100000 in
set_option maxHeartbeats 4000000 in
theorem kc_X1_clear (l : Launch) (D : va_G) (k : Nat → ClassId) (B0 : Nat) (ad : Nat → Nat) (al sw : Nat) : zf_Con l yX1_clear (zw yX1_clear cX1_clear 1 none) ({ frames := 1, cells := 0, slots := 0, locals := 23 }) D k (zEx B0 ad al sw) zGT 37 zm_X1_clear := by
  have hEx := zEx_ok B0 ad al sw
  refine zf_mk (cc := cX1_clear) (nL := 1) (ret := none) (Ms := [zm_J7_fill_53178_vrows]) (fg := [(9, 0, 0, .inl (0, 0))]) (fp := []) (ins := zn_X1_clear) (cuts := zu_X1_clear) (fuel := 3000) (by decide) rfl hEx (by decide +kernel) (by decide +kernel) (by decide +kernel) (by decide +kernel) ?_
  intro p e s m args below meth c Q Sg w0 A θ0 S hK hE hAB hA hone hsing
  refine ⟨?_, ?_, ?_⟩
  · exact zf_ac ((fun H locs ws a q0 fs v rest pc ls hP he hv hdg kk => va_get (D := D) (ci := 0) (C := RX1) (T := TX1) (N := 2) (own := RX1) S.1 S.2.1 S.2.2.2.2 (zg_in inW_X1) S.2.2.2.1 hK hP q0 he rfl 0 (by decide) (S.2.2.2.2 (.fieldLink RX1 9 "RungMoney$Debts" "rows" "[I") (List.mem_cons_of_mem _ zw_256)) (fun _ h9 => h9) hv hdg kk)) zf_an
  · exact zf_an
  · exact zf_crl (xs := [(.invokestatic 18, 3, 0)]) (by decide +kernel) (zf_ac (zf_crS S hEx hE hAB hA hK hone hsing (kc_J7_fill_53178_vrows l D k B0 ad al sw) (va_cwS 2 S.2.2.2.2 (zg_S zw_487 zw_397 zw_108 zw_398) rfl rfl rfl (by decide +kernel) ⟨(Nat.le_of_ble_eq_true rfl), (Nat.le_of_ble_eq_true rfl)⟩) ⟨(Nat.le_of_ble_eq_true rfl), (Nat.le_of_ble_eq_true rfl)⟩ rfl) zf_an)
def zm_X1_copy : zf_M := (([], [], 66, [], [.inr (some (72, 65)), .inr (some (72, 64))], []), [(73, ([], 0), ([], 35))], [(none, ([], [], 66, [], [], []))])
def zn_X1_copy : List zf_X := [(0, 1, .aload_n 1, []), (1, 3, .getfield 9, []), (4, 1, .iconst 0, []), (5, 1, .aload_n 0, []), (6, 3, .getfield 9, []), (9, 1, .iconst 0, []), (10, 1, .aload_n 0, []), (11, 3, .getfield 9, []), (14, 1, .arraylength, []), (15, 3, .invokestatic 24, [0]), (18, 1, .return_, [])]
def zu_X1_copy : List zf_U := []
theorem zw_624 : (Jvm.Cond.methodLink RX1 24 arraycopyName) ∈ lw_g := lw_t3 rfl (List.mem_of_getElem? (i := 50) rfl)
theorem zw_614 : (Jvm.Cond.native arraycopyName) ∈ lw_g := lw_t3 rfl (List.mem_of_getElem? (i := 40) rfl)
theorem zw_613 : (Jvm.Cond.static arraycopyName) ∈ lw_g := lw_t3 rfl (List.mem_of_getElem? (i := 39) rfl)
theorem zw_110 : (Jvm.Cond.initialized "java/lang/System") ∈ lw_g := lw_t1 rfl (List.mem_of_getElem? (i := 16) rfl)
set_option maxRecDepth 100000 in
set_option maxHeartbeats 4000000 in
theorem kc_X1_copy (l : Launch) (D : va_G) (k : Nat → ClassId) (B0 : Nat) (ad : Nat → Nat) (al sw : Nat) : zf_Con l yX1_copy (zw yX1_copy cX1_copy 2 none) ({ frames := 1, cells := 0, slots := 0, locals := 60 }) D k (zEx B0 ad al sw) zGT 37 zm_X1_copy := by
  have hEx := zEx_ok B0 ad al sw
  refine zf_mk (cc := cX1_copy) (nL := 2) (ret := none) (Ms := [zf_mCp 73 64 73 65 66 36 0]) (fg := [(9, 0, 0, .inl (0, 0))]) (fp := []) (ins := zn_X1_copy) (cuts := zu_X1_copy) (fuel := 3000) (by decide) rfl hEx (by decide +kernel) (by decide +kernel) (by decide +kernel) (by decide +kernel) ?_
  intro p e s m args below meth c Q Sg w0 A θ0 S hK hE hAB hA hone hsing
  refine ⟨?_, ?_, ?_⟩
  · exact zf_ac ((fun H locs ws a q0 fs v rest pc ls hP he hv hdg kk => va_get (D := D) (ci := 0) (C := RX1) (T := TX1) (N := 2) (own := RX1) S.1 S.2.1 S.2.2.2.2 (zg_in inW_X1) S.2.2.2.1 hK hP q0 he rfl 0 (by decide) (S.2.2.2.2 (.fieldLink RX1 9 "RungMoney$Debts" "rows" "[I") (List.mem_cons_of_mem _ zw_256)) (fun _ h9 => h9) hv hdg kk)) zf_an
  · exact zf_an
  · exact zf_crl (xs := [(.invokestatic 24, 3, 0)]) (by decide +kernel) (zf_ac (zf_crcpI (own := RX1) S.1 S.2.1 S.2.2.1 hK S.2.2.2.1 (S.2.2.2.2 (.methodLink RX1 24 arraycopyName) (List.mem_cons_of_mem _ zw_624)) (S.2.2.2.2 (.native arraycopyName) (List.mem_cons_of_mem _ zw_614)) (S.2.2.2.2 (.static arraycopyName) (List.mem_cons_of_mem _ zw_613)) (S.2.2.2.2 (.initialized "java/lang/System") (List.mem_cons_of_mem _ zw_110)) (Nat.le_of_ble_eq_true rfl) (Nat.le_of_ble_eq_true rfl) (by decide +kernel) (by decide +kernel) (by decide +kernel) (by decide +kernel) (by decide) (by decide) (by decide +kernel) (by decide +kernel)) zf_an)
def zm_X1_same : zf_M := (([], [], 66, [], [.inr (some (72, 65)), .inr (some (72, 64))], []), [], [(some (.inl ([], 0)), ([], [], 66, [], [], [])), (some (.inl ([], 1)), ([], [], 66, [], [], []))])
def zn_X1_same : List zf_X := [(0, 1, .iconst 0, []), (1, 1, .istore_n 2, []), (2, 1, .iload_n 2, []), (3, 1, .aload_n 0, []), (4, 3, .getfield 9, []), (7, 1, .arraylength, []), (8, 3, .if_icmp .ge 26, []), (11, 1, .aload_n 0, []), (12, 3, .getfield 9, []), (15, 1, .iload_n 2, []), (16, 1, .iaload, []), (17, 1, .aload_n 1, []), (18, 3, .getfield 9, []), (21, 1, .iload_n 2, []), (22, 1, .iaload, []), (23, 3, .if_icmp .eq 5, []), (26, 1, .iconst 0, []), (27, 1, .ireturn, []), (28, 3, .iinc 2 1, []), (31, 3, .goto (-29), []), (34, 1, .iconst 1, []), (35, 1, .ireturn, [])]
def zu_X1_same : List zf_U := [(2, ([(0, 36)], [], 66, [(0, .inr (some (72, 64))), (1, .inr (some (72, 65))), (2, .inl ([(0, 1)], 0))], [], []), ([(0, (-1))], 37), 0)]
set_option maxRecDepth 100000 in
set_option maxHeartbeats 4000000 in
theorem kc_X1_same (l : Launch) (D : va_G) (k : Nat → ClassId) (B0 : Nat) (ad : Nat → Nat) (al sw : Nat) : zf_Con l yX1_same (zw yX1_same cX1_same 3 (some .boolean)) ({ frames := 0, cells := 0, slots := 0, locals := 0 }) D k (zEx B0 ad al sw) zGT 37 zm_X1_same := by
  have hEx := zEx_ok B0 ad al sw
  refine zf_mk (cc := cX1_same) (nL := 3) (ret := (some .boolean)) (Ms := []) (fg := [(9, 0, 0, .inl (0, 0))]) (fp := []) (ins := zn_X1_same) (cuts := zu_X1_same) (fuel := 3000) (by decide) rfl hEx (by decide +kernel) (by decide +kernel) (by decide +kernel) (by decide +kernel) ?_
  intro p e s m args below meth c Q Sg w0 A θ0 S hK hE hAB hA hone hsing
  refine ⟨?_, ?_, ?_⟩
  · exact zf_ac ((fun H locs ws a q0 fs v rest pc ls hP he hv hdg kk => va_get (D := D) (ci := 0) (C := RX1) (T := TX1) (N := 2) (own := RX1) S.1 S.2.1 S.2.2.2.2 (zg_in inW_X1) S.2.2.2.1 hK hP q0 he rfl 0 (by decide) (S.2.2.2.2 (.fieldLink RX1 9 "RungMoney$Debts" "rows" "[I") (List.mem_cons_of_mem _ zw_256)) (fun _ h9 => h9) hv hdg kk)) zf_an
  · exact zf_an
  · exact zf_crl (xs := []) (by decide +kernel) (zf_an)
def zm_X1_isPair : zf_M := (([((-2147483648), 2147483647), ((-2147483648), 2147483647)], [], 64, [], [.inl ([(1, 1)], 0), .inl ([(0, 1)], 0)], []), [], [(some (.inl ([], 1)), ([(0, 5), (0, 5)], [], 64, [], [], [])), (some (.inl ([], 0)), ([((-2147483648), 2147483647), ((-2147483648), 2147483647)], [], 64, [], [], []))])
def zn_X1_isPair : List zf_X := [(0, 1, .iload_n 0, []), (1, 3, .ifCond .lt 23, []), (4, 1, .iload_n 0, []), (5, 2, .bipush 6, []), (7, 3, .if_icmp .ge 17, []), (10, 1, .iload_n 1, []), (11, 3, .ifCond .lt 13, []), (14, 1, .iload_n 1, []), (15, 2, .bipush 6, []), (17, 3, .if_icmp .ge 7, []), (20, 1, .iconst 1, []), (21, 3, .goto 4, []), (24, 1, .iconst 0, []), (25, 1, .ireturn, [])]
def zu_X1_isPair : List zf_U := []
set_option maxRecDepth 100000 in
set_option maxHeartbeats 4000000 in
theorem kc_X1_isPair (l : Launch) (D : va_G) (k : Nat → ClassId) (B0 : Nat) (ad : Nat → Nat) (al sw : Nat) : zf_Con l yX1_isPair (zw yX1_isPair cX1_isPair 2 (some .boolean)) ({ frames := 0, cells := 0, slots := 0, locals := 0 }) D k (zEx B0 ad al sw) zGT 37 zm_X1_isPair := by
  have hEx := zEx_ok B0 ad al sw
  refine zf_mk (cc := cX1_isPair) (nL := 2) (ret := (some .boolean)) (Ms := []) (fg := []) (fp := []) (ins := zn_X1_isPair) (cuts := zu_X1_isPair) (fuel := 3000) (by decide) rfl hEx (by decide +kernel) (by decide +kernel) (by decide +kernel) (by decide +kernel) ?_
  intro p e s m args below meth c Q Sg w0 A θ0 S hK hE hAB hA hone hsing
  refine ⟨?_, ?_, ?_⟩
  · exact zf_an
  · exact zf_an
  · exact zf_crl (xs := []) (by decide +kernel) (zf_an)
def zm_X1_of : zf_M := (([((-2147483648), 2147483647), ((-2147483648), 2147483647)], [], 65, [], [.inl ([(1, 1)], 0), .inl ([(0, 1)], 0), .inr (some (72, 64))], []), [], [(some (.inl ([], 0)), ([((-2147483648), 2147483647), ((-2147483648), 2147483647)], [], 65, [], [], [])), (some (.inl ([(2, 1)], 0)), ([(0, 5), (0, 5), ((-2147483648), 2147483647)], [], 65, [], [], []))])
def zn_X1_of : List zf_X := [(0, 1, .iload_n 1, []), (1, 1, .iload_n 2, []), (2, 3, .invokestatic 30, [0]), (5, 3, .ifCond .eq 17, []), (8, 1, .aload_n 0, []), (9, 3, .getfield 9, []), (12, 1, .iload_n 1, []), (13, 2, .bipush 6, []), (15, 1, .imul, []), (16, 1, .iload_n 2, []), (17, 1, .iadd, []), (18, 1, .iaload, []), (19, 3, .goto 4, []), (22, 1, .iconst 0, []), (23, 1, .ireturn, [])]
def zu_X1_of : List zf_U := []
theorem zw_585 : (Jvm.Cond.code yX1_isPair cX1_isPair 2 (some .boolean)) ∈ lw_g := lw_t3 rfl (List.mem_of_getElem? (i := 11) rfl)
theorem zw_583 : (Jvm.Cond.methodLink RX1 30 yX1_isPair) ∈ lw_g := lw_t3 rfl (List.mem_of_getElem? (i := 9) rfl)
theorem zw_584 : (Jvm.Cond.static yX1_isPair) ∈ lw_g := lw_t3 rfl (List.mem_of_getElem? (i := 10) rfl)
theorem zw_101 : (Jvm.Cond.initialized RX1) ∈ lw_g := lw_t1 rfl (List.mem_of_getElem? (i := 7) rfl)
set_option maxRecDepth 100000 in
set_option maxHeartbeats 4000000 in
theorem kc_X1_of (l : Launch) (D : va_G) (k : Nat → ClassId) (B0 : Nat) (ad : Nat → Nat) (al sw : Nat) : zf_Con l yX1_of (zw yX1_of cX1_of 3 (some .int)) ({ frames := 1, cells := 0, slots := 0, locals := 21 }) D k (zEx B0 ad al sw) zGT 37 zm_X1_of := by
  have hEx := zEx_ok B0 ad al sw
  refine zf_mk (cc := cX1_of) (nL := 3) (ret := (some .int)) (Ms := [zm_X1_isPair]) (fg := [(9, 0, 0, .inl (0, 0))]) (fp := []) (ins := zn_X1_of) (cuts := zu_X1_of) (fuel := 3000) (by decide) rfl hEx (by decide +kernel) (by decide +kernel) (by decide +kernel) (by decide +kernel) ?_
  intro p e s m args below meth c Q Sg w0 A θ0 S hK hE hAB hA hone hsing
  refine ⟨?_, ?_, ?_⟩
  · exact zf_ac ((fun H locs ws a q0 fs v rest pc ls hP he hv hdg kk => va_get (D := D) (ci := 0) (C := RX1) (T := TX1) (N := 2) (own := RX1) S.1 S.2.1 S.2.2.2.2 (zg_in inW_X1) S.2.2.2.1 hK hP q0 he rfl 0 (by decide) (S.2.2.2.2 (.fieldLink RX1 9 "RungMoney$Debts" "rows" "[I") (List.mem_cons_of_mem _ zw_256)) (fun _ h9 => h9) hv hdg kk)) zf_an
  · exact zf_an
  · exact zf_crl (xs := [(.invokestatic 30, 3, 0)]) (by decide +kernel) (zf_ac (zf_crS S hEx hE hAB hA hK hone hsing (kc_X1_isPair l D k B0 ad al sw) (va_cwS 2 S.2.2.2.2 (zg_S zw_583 zw_584 zw_101 zw_585) rfl rfl rfl (by decide +kernel) ⟨(Nat.le_of_ble_eq_true rfl), (Nat.le_of_ble_eq_true rfl)⟩) ⟨(Nat.le_of_ble_eq_true rfl), (Nat.le_of_ble_eq_true rfl)⟩ rfl) zf_an)
def zm_X1_put : zf_M := (([((-2147483648), 2147483647), ((-2147483648), 2147483647), ((-2147483648), 2147483647)], [], 65, [], [.inl ([(2, 1)], 0), .inl ([(1, 1)], 0), .inl ([(0, 1)], 0), .inr (some (72, 64))], []), [(73, ([], 0), ([], 35))], [(none, ([((-2147483648), 2147483647), ((-2147483648), 2147483647), ((-2147483648), 2147483647)], [], 65, [], [], [])), (none, ([(0, 5), (0, 5), ((-2147483648), 2147483647)], [], 65, [], [], []))])
def zn_X1_put : List zf_X := [(0, 1, .iload_n 1, []), (1, 1, .iload_n 2, []), (2, 3, .invokestatic 30, [0]), (5, 3, .ifCond .eq 15, []), (8, 1, .aload_n 0, []), (9, 3, .getfield 9, []), (12, 1, .iload_n 1, []), (13, 2, .bipush 6, []), (15, 1, .imul, []), (16, 1, .iload_n 2, []), (17, 1, .iadd, []), (18, 1, .iload_n 3, []), (19, 1, .iastore, []), (20, 1, .return_, [])]
def zu_X1_put : List zf_U := []
set_option maxRecDepth 100000 in
set_option maxHeartbeats 4000000 in
theorem kc_X1_put (l : Launch) (D : va_G) (k : Nat → ClassId) (B0 : Nat) (ad : Nat → Nat) (al sw : Nat) : zf_Con l yX1_put (zw yX1_put cX1_put 4 none) ({ frames := 1, cells := 0, slots := 0, locals := 21 }) D k (zEx B0 ad al sw) zGT 37 zm_X1_put := by
  have hEx := zEx_ok B0 ad al sw
  refine zf_mk (cc := cX1_put) (nL := 4) (ret := none) (Ms := [zm_X1_isPair]) (fg := [(9, 0, 0, .inl (0, 0))]) (fp := []) (ins := zn_X1_put) (cuts := zu_X1_put) (fuel := 3000) (by decide) rfl hEx (by decide +kernel) (by decide +kernel) (by decide +kernel) (by decide +kernel) ?_
  intro p e s m args below meth c Q Sg w0 A θ0 S hK hE hAB hA hone hsing
  refine ⟨?_, ?_, ?_⟩
  · exact zf_ac ((fun H locs ws a q0 fs v rest pc ls hP he hv hdg kk => va_get (D := D) (ci := 0) (C := RX1) (T := TX1) (N := 2) (own := RX1) S.1 S.2.1 S.2.2.2.2 (zg_in inW_X1) S.2.2.2.1 hK hP q0 he rfl 0 (by decide) (S.2.2.2.2 (.fieldLink RX1 9 "RungMoney$Debts" "rows" "[I") (List.mem_cons_of_mem _ zw_256)) (fun _ h9 => h9) hv hdg kk)) zf_an
  · exact zf_an
  · exact zf_crl (xs := [(.invokestatic 30, 3, 0)]) (by decide +kernel) (zf_ac (zf_crS S hEx hE hAB hA hK hone hsing (kc_X1_isPair l D k B0 ad al sw) (va_cwS 2 S.2.2.2.2 (zg_S zw_583 zw_584 zw_101 zw_585) rfl rfl rfl (by decide +kernel) ⟨(Nat.le_of_ble_eq_true rfl), (Nat.le_of_ble_eq_true rfl)⟩) ⟨(Nat.le_of_ble_eq_true rfl), (Nat.le_of_ble_eq_true rfl)⟩ rfl) zf_an)
def zm_X1_owes : zf_M := (([((-2147483648), 2147483647)], [], 65, [], [.inl ([(0, 1)], 0), .inr (some (72, 64))], []), [], [(some (.inl ([(1, 1)], 0)), ([((-2147483648), 2147483647), ((-2147483648), 2147483647)], [], 65, [], [], []))])
def zn_X1_owes : List zf_X := [(0, 1, .iconst 0, []), (1, 1, .istore_n 2, []), (2, 1, .iconst 0, []), (3, 1, .istore_n 3, []), (4, 1, .iload_n 3, []), (5, 2, .bipush 6, []), (7, 3, .if_icmp .ge 18, []), (10, 1, .iload_n 2, []), (11, 1, .aload_n 0, []), (12, 1, .iload_n 1, []), (13, 1, .iload_n 3, []), (14, 3, .invokevirtual 34, [0]), (17, 1, .iadd, []), (18, 1, .istore_n 2, []), (19, 3, .iinc 3 1, []), (22, 3, .goto (-18), []), (25, 1, .iload_n 2, []), (26, 1, .ireturn, [])]
def zu_X1_owes : List zf_U := [(4, ([((-2147483648), 2147483647), ((-2147483648), 2147483647), (0, 6)], [], 65, [(0, .inr (some (72, 64))), (1, .inl ([(0, 1)], 0)), (2, .inl ([(1, 1)], 0)), (3, .inl ([(2, 1)], 0))], [], []), ([(2, (-1))], 7), 0)]
theorem zw_582 : (Jvm.Cond.code yX1_of cX1_of 3 (some .int)) ∈ lw_g := lw_t3 rfl (List.mem_of_getElem? (i := 8) rfl)
theorem zw_683 : (Jvm.Cond.methodLink RX1 34 yX1_of) ∈ lw_g := lw_t3 rfl (List.mem_of_getElem? (i := 109) rfl)
theorem zw_580 : (Jvm.Cond.instanceMethod yX1_of) ∈ lw_g := lw_t3 rfl (List.mem_of_getElem? (i := 6) rfl)
theorem zw_581 : (Jvm.Cond.selects RX1 yX1_of yX1_of) ∈ lw_g := lw_t3 rfl (List.mem_of_getElem? (i := 7) rfl)
set_option maxRecDepth 100000 in
set_option maxHeartbeats 4000000 in
theorem kc_X1_owes (l : Launch) (D : va_G) (k : Nat → ClassId) (B0 : Nat) (ad : Nat → Nat) (al sw : Nat) : zf_Con l yX1_owes (zw yX1_owes cX1_owes 4 (some .int)) ({ frames := 2, cells := 0, slots := 0, locals := 43 }) D k (zEx B0 ad al sw) zGT 37 zm_X1_owes := by
  have hEx := zEx_ok B0 ad al sw
  refine zf_mk (cc := cX1_owes) (nL := 4) (ret := (some .int)) (Ms := [zm_X1_of]) (fg := []) (fp := []) (ins := zn_X1_owes) (cuts := zu_X1_owes) (fuel := 3000) (by decide) rfl hEx (by decide +kernel) (by decide +kernel) (by decide +kernel) (by decide +kernel) ?_
  intro p e s m args below meth c Q Sg w0 A θ0 S hK hE hAB hA hone hsing
  refine ⟨?_, ?_, ?_⟩
  · exact zf_an
  · exact zf_an
  · exact zf_crl (xs := [(.invokevirtual 34, 3, 0)]) (by decide +kernel) (zf_ac (zf_crV S hEx hE hAB hA hK hone hsing (kc_X1_of l D k B0 ad al sw) (cwV 2 S.2.2.2.2 (zg_V zw_683 zw_580 zw_581 zw_101 zw_582) rfl rfl rfl (by decide +kernel) ⟨(Nat.le_of_ble_eq_true rfl), (Nat.le_of_ble_eq_true rfl)⟩) ⟨(Nat.le_of_ble_eq_true rfl), (Nat.le_of_ble_eq_true rfl)⟩ 0 rfl rfl (ar := [.inl ([(1, 1)], 0), .inl ([(0, 1)], 0)]) rfl rfl (by decide +kernel)) zf_an)
def zm_X1_owedWithout : zf_M := (([((-2147483648), 2147483647), ((-2147483648), 2147483647)], [], 65, [], [.inl ([(1, 1)], 0), .inl ([(0, 1)], 0), .inr (some (72, 64))], []), [], [(some (.inl ([(2, 1)], 0)), ([((-2147483648), 2147483647), ((-2147483648), 2147483647), ((-2147483648), 2147483647)], [], 65, [], [], []))])
def zn_X1_owedWithout : List zf_X := [(0, 1, .iconst 0, []), (1, 1, .istore_n 3, []), (2, 1, .iconst 0, []), (3, 2, .istore 4, []), (5, 2, .iload 4, []), (7, 2, .bipush 6, []), (9, 3, .if_icmp .ge 28, []), (12, 1, .iload_n 2, []), (13, 2, .iload 4, []), (15, 1, .ishr, []), (16, 1, .iconst 1, []), (17, 1, .iand, []), (18, 3, .ifCond .ne 13, []), (21, 1, .iload_n 3, []), (22, 1, .aload_n 0, []), (23, 2, .iload 4, []), (25, 1, .iload_n 1, []), (26, 3, .invokevirtual 34, [0]), (29, 1, .iadd, []), (30, 1, .istore_n 3, []), (31, 3, .iinc 4 1, []), (34, 3, .goto (-29), []), (37, 1, .iload_n 3, []), (38, 1, .ireturn, [])]
def zu_X1_owedWithout : List zf_U := [(5, ([((-2147483648), 2147483647), ((-2147483648), 2147483647), ((-2147483648), 2147483647), (0, 6)], [], 65, [(0, .inr (some (72, 64))), (1, .inl ([(0, 1)], 0)), (2, .inl ([(1, 1)], 0)), (3, .inl ([(2, 1)], 0)), (4, .inl ([(3, 1)], 0))], [], []), ([(3, (-1))], 7), 0)]
set_option maxRecDepth 100000 in
set_option maxHeartbeats 4000000 in
theorem kc_X1_owedWithout (l : Launch) (D : va_G) (k : Nat → ClassId) (B0 : Nat) (ad : Nat → Nat) (al sw : Nat) : zf_Con l yX1_owedWithout (zw yX1_owedWithout cX1_owedWithout 5 (some .int)) ({ frames := 2, cells := 0, slots := 0, locals := 43 }) D k (zEx B0 ad al sw) zGT 37 zm_X1_owedWithout := by
  have hEx := zEx_ok B0 ad al sw
  refine zf_mk (cc := cX1_owedWithout) (nL := 5) (ret := (some .int)) (Ms := [zm_X1_of]) (fg := []) (fp := []) (ins := zn_X1_owedWithout) (cuts := zu_X1_owedWithout) (fuel := 3000) (by decide) rfl hEx (by decide +kernel) (by decide +kernel) (by decide +kernel) (by decide +kernel) ?_
  intro p e s m args below meth c Q Sg w0 A θ0 S hK hE hAB hA hone hsing
  refine ⟨?_, ?_, ?_⟩
  · exact zf_an
  · exact zf_an
  · exact zf_crl (xs := [(.invokevirtual 34, 3, 0)]) (by decide +kernel) (zf_ac (zf_crV S hEx hE hAB hA hK hone hsing (kc_X1_of l D k B0 ad al sw) (cwV 2 S.2.2.2.2 (zg_V zw_683 zw_580 zw_581 zw_101 zw_582) rfl rfl rfl (by decide +kernel) ⟨(Nat.le_of_ble_eq_true rfl), (Nat.le_of_ble_eq_true rfl)⟩) ⟨(Nat.le_of_ble_eq_true rfl), (Nat.le_of_ble_eq_true rfl)⟩ 0 rfl rfl (ar := [.inl ([(1, 1)], 0), .inl ([(0, 1)], 0)]) rfl rfl (by decide +kernel)) zf_an)
def zm_X1_owed : zf_M := (([((-2147483648), 2147483647)], [], 65, [], [.inl ([(0, 1)], 0), .inr (some (72, 64))], []), [], [(some (.inl ([(1, 1)], 0)), ([((-2147483648), 2147483647), ((-2147483648), 2147483647)], [], 65, [], [], []))])
def zn_X1_owed : List zf_X := [(0, 1, .aload_n 0, []), (1, 1, .iload_n 1, []), (2, 1, .iconst 0, []), (3, 3, .invokevirtual 38, [0]), (6, 1, .ireturn, [])]
def zu_X1_owed : List zf_U := []
theorem zw_691 : (Jvm.Cond.code yX1_owedWithout cX1_owedWithout 5 (some .int)) ∈ lw_g := lw_t3 rfl (List.mem_of_getElem? (i := 117) rfl)
theorem zw_688 : (Jvm.Cond.methodLink RX1 38 yX1_owedWithout) ∈ lw_g := lw_t3 rfl (List.mem_of_getElem? (i := 114) rfl)
theorem zw_689 : (Jvm.Cond.instanceMethod yX1_owedWithout) ∈ lw_g := lw_t3 rfl (List.mem_of_getElem? (i := 115) rfl)
theorem zw_690 : (Jvm.Cond.selects RX1 yX1_owedWithout yX1_owedWithout) ∈ lw_g := lw_t3 rfl (List.mem_of_getElem? (i := 116) rfl)
set_option maxRecDepth 100000 in
set_option maxHeartbeats 4000000 in
theorem kc_X1_owed (l : Launch) (D : va_G) (k : Nat → ClassId) (B0 : Nat) (ad : Nat → Nat) (al sw : Nat) : zf_Con l yX1_owed (zw yX1_owed cX1_owed 2 (some .int)) ({ frames := 3, cells := 0, slots := 0, locals := 67 }) D k (zEx B0 ad al sw) zGT 37 zm_X1_owed := by
  have hEx := zEx_ok B0 ad al sw
  refine zf_mk (cc := cX1_owed) (nL := 2) (ret := (some .int)) (Ms := [zm_X1_owedWithout]) (fg := []) (fp := []) (ins := zn_X1_owed) (cuts := zu_X1_owed) (fuel := 3000) (by decide) rfl hEx (by decide +kernel) (by decide +kernel) (by decide +kernel) (by decide +kernel) ?_
  intro p e s m args below meth c Q Sg w0 A θ0 S hK hE hAB hA hone hsing
  refine ⟨?_, ?_, ?_⟩
  · exact zf_an
  · exact zf_an
  · exact zf_crl (xs := [(.invokevirtual 38, 3, 0)]) (by decide +kernel) (zf_ac (zf_crV S hEx hE hAB hA hK hone hsing (kc_X1_owedWithout l D k B0 ad al sw) (cwV 2 S.2.2.2.2 (zg_V zw_688 zw_689 zw_690 zw_101 zw_691) rfl rfl rfl (by decide +kernel) ⟨(Nat.le_of_ble_eq_true rfl), (Nat.le_of_ble_eq_true rfl)⟩) ⟨(Nat.le_of_ble_eq_true rfl), (Nat.le_of_ble_eq_true rfl)⟩ 0 rfl rfl (ar := [.inl ([(1, 1)], 0), .inl ([(0, 1)], 0)]) rfl rfl (by decide +kernel)) zf_an)
def zm_X1_balance : zf_M := (([((-2147483648), 2147483647)], [], 65, [], [.inl ([(0, 1)], 0), .inr (some (72, 64))], []), [], [(some (.inl ([(1, 1)], 0)), ([((-2147483648), 2147483647), ((-2147483648), 2147483647)], [], 65, [], [], []))])
def zn_X1_balance : List zf_X := [(0, 1, .aload_n 0, []), (1, 1, .iload_n 1, []), (2, 3, .invokevirtual 41, [0]), (5, 1, .aload_n 0, []), (6, 1, .iload_n 1, []), (7, 3, .invokevirtual 45, [1]), (10, 1, .isub, []), (11, 1, .ireturn, [])]
def zu_X1_balance : List zf_U := []
theorem zw_687 : (Jvm.Cond.code yX1_owed cX1_owed 2 (some .int)) ∈ lw_g := lw_t3 rfl (List.mem_of_getElem? (i := 113) rfl)
theorem zw_875 : (Jvm.Cond.methodLink RX1 41 yX1_owed) ∈ lw_g := lw_t4 rfl (List.mem_of_getElem? (i := 61) rfl)
theorem zw_685 : (Jvm.Cond.instanceMethod yX1_owed) ∈ lw_g := lw_t3 rfl (List.mem_of_getElem? (i := 111) rfl)
theorem zw_686 : (Jvm.Cond.selects RX1 yX1_owed yX1_owed) ∈ lw_g := lw_t3 rfl (List.mem_of_getElem? (i := 112) rfl)
theorem zw_682 : (Jvm.Cond.code yX1_owes cX1_owes 4 (some .int)) ∈ lw_g := lw_t3 rfl (List.mem_of_getElem? (i := 108) rfl)
theorem zw_876 : (Jvm.Cond.methodLink RX1 45 yX1_owes) ∈ lw_g := lw_t4 rfl (List.mem_of_getElem? (i := 62) rfl)
theorem zw_680 : (Jvm.Cond.instanceMethod yX1_owes) ∈ lw_g := lw_t3 rfl (List.mem_of_getElem? (i := 106) rfl)
theorem zw_681 : (Jvm.Cond.selects RX1 yX1_owes yX1_owes) ∈ lw_g := lw_t3 rfl (List.mem_of_getElem? (i := 107) rfl)
set_option maxRecDepth 100000 in
set_option maxHeartbeats 4000000 in
theorem kc_X1_balance (l : Launch) (D : va_G) (k : Nat → ClassId) (B0 : Nat) (ad : Nat → Nat) (al sw : Nat) : zf_Con l yX1_balance (zw yX1_balance cX1_balance 2 (some .int)) ({ frames := 4, cells := 0, slots := 0, locals := 88 }) D k (zEx B0 ad al sw) zGT 37 zm_X1_balance := by
  have hEx := zEx_ok B0 ad al sw
  refine zf_mk (cc := cX1_balance) (nL := 2) (ret := (some .int)) (Ms := [zm_X1_owed, zm_X1_owes]) (fg := []) (fp := []) (ins := zn_X1_balance) (cuts := zu_X1_balance) (fuel := 3000) (by decide) rfl hEx (by decide +kernel) (by decide +kernel) (by decide +kernel) (by decide +kernel) ?_
  intro p e s m args below meth c Q Sg w0 A θ0 S hK hE hAB hA hone hsing
  refine ⟨?_, ?_, ?_⟩
  · exact zf_an
  · exact zf_an
  · exact zf_crl (xs := [(.invokevirtual 41, 3, 0), (.invokevirtual 45, 3, 1)]) (by decide +kernel) (zf_ac (zf_crV S hEx hE hAB hA hK hone hsing (kc_X1_owed l D k B0 ad al sw) (cwV 1 S.2.2.2.2 (zg_V zw_875 zw_685 zw_686 zw_101 zw_687) rfl rfl rfl (by decide +kernel) ⟨(Nat.le_of_ble_eq_true rfl), (Nat.le_of_ble_eq_true rfl)⟩) ⟨(Nat.le_of_ble_eq_true rfl), (Nat.le_of_ble_eq_true rfl)⟩ 0 rfl rfl (ar := [.inl ([(0, 1)], 0)]) rfl rfl (by decide +kernel)) (zf_ac (zf_crV S hEx hE hAB hA hK hone hsing (kc_X1_owes l D k B0 ad al sw) (cwV 1 S.2.2.2.2 (zg_V zw_876 zw_680 zw_681 zw_101 zw_682) rfl rfl rfl (by decide +kernel) ⟨(Nat.le_of_ble_eq_true rfl), (Nat.le_of_ble_eq_true rfl)⟩) ⟨(Nat.le_of_ble_eq_true rfl), (Nat.le_of_ble_eq_true rfl)⟩ 0 rfl rfl (ar := [.inl ([(0, 1)], 0)]) rfl rfl (by decide +kernel)) zf_an))
def zm_X1_all : zf_M := (([], [], 65, [], [.inr (some (72, 64))], []), [], [(some (.inl ([(0, 1)], 0)), ([((-2147483648), 2147483647)], [], 65, [], [], []))])
def zn_X1_all : List zf_X := [(0, 1, .iconst 0, []), (1, 1, .istore_n 1, []), (2, 1, .iconst 0, []), (3, 1, .istore_n 2, []), (4, 1, .iload_n 2, []), (5, 1, .aload_n 0, []), (6, 3, .getfield 9, []), (9, 1, .arraylength, []), (10, 3, .if_icmp .ge 18, []), (13, 1, .iload_n 1, []), (14, 1, .aload_n 0, []), (15, 3, .getfield 9, []), (18, 1, .iload_n 2, []), (19, 1, .iaload, []), (20, 1, .iadd, []), (21, 1, .istore_n 1, []), (22, 3, .iinc 2 1, []), (25, 3, .goto (-21), []), (28, 1, .iload_n 1, []), (29, 1, .ireturn, [])]
def zu_X1_all : List zf_U := [(4, ([((-2147483648), 2147483647), (0, 36)], [], 65, [(0, .inr (some (72, 64))), (1, .inl ([(0, 1)], 0)), (2, .inl ([(1, 1)], 0))], [], []), ([(1, (-1))], 37), 0)]
set_option maxRecDepth 100000 in
set_option maxHeartbeats 4000000 in
theorem kc_X1_all (l : Launch) (D : va_G) (k : Nat → ClassId) (B0 : Nat) (ad : Nat → Nat) (al sw : Nat) : zf_Con l yX1_all (zw yX1_all cX1_all 3 (some .int)) ({ frames := 0, cells := 0, slots := 0, locals := 0 }) D k (zEx B0 ad al sw) zGT 37 zm_X1_all := by
  have hEx := zEx_ok B0 ad al sw
  refine zf_mk (cc := cX1_all) (nL := 3) (ret := (some .int)) (Ms := []) (fg := [(9, 0, 0, .inl (0, 0))]) (fp := []) (ins := zn_X1_all) (cuts := zu_X1_all) (fuel := 3000) (by decide) rfl hEx (by decide +kernel) (by decide +kernel) (by decide +kernel) (by decide +kernel) ?_
  intro p e s m args below meth c Q Sg w0 A θ0 S hK hE hAB hA hone hsing
  refine ⟨?_, ?_, ?_⟩
  · exact zf_ac ((fun H locs ws a q0 fs v rest pc ls hP he hv hdg kk => va_get (D := D) (ci := 0) (C := RX1) (T := TX1) (N := 2) (own := RX1) S.1 S.2.1 S.2.2.2.2 (zg_in inW_X1) S.2.2.2.1 hK hP q0 he rfl 0 (by decide) (S.2.2.2.2 (.fieldLink RX1 9 "RungMoney$Debts" "rows" "[I") (List.mem_cons_of_mem _ zw_256)) (fun _ h9 => h9) hv hdg kk)) zf_an
  · exact zf_an
  · exact zf_crl (xs := []) (by decide +kernel) (zf_an)
def zm_X1_allStruck : zf_M := (([], [], 65, [], [.inr (some (72, 64))], []), [], [(some (.inl ([(0, 1)], 0)), ([((-2147483648), 2147483647)], [], 65, [], [], []))])
def zn_X1_allStruck : List zf_X := [(0, 1, .iconst 0, []), (1, 1, .istore_n 1, []), (2, 1, .iconst 0, []), (3, 1, .istore_n 2, []), (4, 1, .iload_n 2, []), (5, 2, .bipush 6, []), (7, 3, .if_icmp .ge 21, []), (10, 1, .iload_n 1, []), (11, 1, .aload_n 0, []), (12, 1, .iload_n 2, []), (13, 3, .invokevirtual 48, [0]), (16, 1, .iconst 0, []), (17, 3, .invokestatic 51, [1]), (20, 1, .iadd, []), (21, 1, .istore_n 1, []), (22, 3, .iinc 2 1, []), (25, 3, .goto (-21), []), (28, 1, .iload_n 1, []), (29, 1, .ireturn, [])]
def zu_X1_allStruck : List zf_U := [(4, ([((-2147483648), 2147483647), (0, 6)], [], 65, [(0, .inr (some (72, 64))), (1, .inl ([(0, 1)], 0)), (2, .inl ([(1, 1)], 0))], [], []), ([(1, (-1))], 7), 0)]
theorem zw_874 : (Jvm.Cond.code yX1_balance cX1_balance 2 (some .int)) ∈ lw_g := lw_t4 rfl (List.mem_of_getElem? (i := 60) rfl)
theorem zw_871 : (Jvm.Cond.methodLink RX1 48 yX1_balance) ∈ lw_g := lw_t4 rfl (List.mem_of_getElem? (i := 57) rfl)
theorem zw_872 : (Jvm.Cond.instanceMethod yX1_balance) ∈ lw_g := lw_t4 rfl (List.mem_of_getElem? (i := 58) rfl)
theorem zw_873 : (Jvm.Cond.selects RX1 yX1_balance yX1_balance) ∈ lw_g := lw_t4 rfl (List.mem_of_getElem? (i := 59) rfl)
theorem zw_1020 : (Jvm.Cond.methodLink RX1 51 Lib.Math.max.name) ∈ lw_g := lw_t4 rfl (List.mem_of_getElem? (i := 206) rfl)
theorem zw_697 : (Jvm.Cond.static Lib.Math.max.name) ∈ lw_g := lw_t3 rfl (List.mem_of_getElem? (i := 123) rfl)
theorem zw_116 : (Jvm.Cond.initialized "java/lang/Math") ∈ lw_g := lw_t1 rfl (List.mem_of_getElem? (i := 22) rfl)
theorem zw_698 : (Jvm.Cond.code Lib.Math.max.name Lib.Math.max.code 2 (some .int)) ∈ lw_g := lw_t3 rfl (List.mem_of_getElem? (i := 124) rfl)
set_option maxRecDepth 100000 in
set_option maxHeartbeats 4000000 in
theorem kc_X1_allStruck (l : Launch) (D : va_G) (k : Nat → ClassId) (B0 : Nat) (ad : Nat → Nat) (al sw : Nat) : zf_Con l yX1_allStruck (zw yX1_allStruck cX1_allStruck 3 (some .int)) ({ frames := 5, cells := 0, slots := 0, locals := 109 }) D k (zEx B0 ad al sw) zGT 37 zm_X1_allStruck := by
  have hEx := zEx_ok B0 ad al sw
  refine zf_mk (cc := cX1_allStruck) (nL := 3) (ret := (some .int)) (Ms := [zm_X1_balance, zf_mMax]) (fg := []) (fp := []) (ins := zn_X1_allStruck) (cuts := zu_X1_allStruck) (fuel := 3000) (by decide) rfl hEx (by decide +kernel) (by decide +kernel) (by decide +kernel) (by decide +kernel) ?_
  intro p e s m args below meth c Q Sg w0 A θ0 S hK hE hAB hA hone hsing
  refine ⟨?_, ?_, ?_⟩
  · exact zf_an
  · exact zf_an
  · exact zf_crl (xs := [(.invokevirtual 48, 3, 0), (.invokestatic 51, 3, 1)]) (by decide +kernel) (zf_ac (zf_crV S hEx hE hAB hA hK hone hsing (kc_X1_balance l D k B0 ad al sw) (cwV 1 S.2.2.2.2 (zg_V zw_871 zw_872 zw_873 zw_101 zw_874) rfl rfl rfl (by decide +kernel) ⟨(Nat.le_of_ble_eq_true rfl), (Nat.le_of_ble_eq_true rfl)⟩) ⟨(Nat.le_of_ble_eq_true rfl), (Nat.le_of_ble_eq_true rfl)⟩ 0 rfl rfl (ar := [.inl ([(0, 1)], 0)]) rfl rfl (by decide +kernel)) (zf_ac (zf_crmax (own := RX1) S.1 S.2.1 S.2.2.1 S.2.2.2.1 (S.2.2.2.2 (.methodLink RX1 51 Lib.Math.max.name) (List.mem_cons_of_mem _ zw_1020)) (S.2.2.2.2 (.static Lib.Math.max.name) (List.mem_cons_of_mem _ zw_697)) (S.2.2.2.2 (.initialized "java/lang/Math") (List.mem_cons_of_mem _ zw_116)) (S.2.2.2.2 (.code Lib.Math.max.name Lib.Math.max.code 2 (some .int)) (List.mem_cons_of_mem _ zw_698)) (Nat.le_of_ble_eq_true rfl) (Nat.le_of_ble_eq_true rfl) (Nat.le_of_ble_eq_true rfl) (Nat.le_of_ble_eq_true rfl)) zf_an))
def zm_X1_strikeFrom : zf_M := (([], [], 66, [], [.inr (some (72, 65)), .inr (some (72, 64))], []), [(73, ([], 0), ([], 35)), (74, ([], 0), ([], 5))], [(none, ([], [], 66, [], [], []))])
def zn_X1_strikeFrom : List zf_X := [(0, 1, .aload_n 0, []), (1, 3, .invokevirtual 56, [0]), (4, 1, .iconst 0, []), (5, 1, .istore_n 2, []), (6, 1, .iload_n 2, []), (7, 2, .bipush 6, []), (9, 3, .if_icmp .ge 20, []), (12, 1, .aload_n 0, []), (13, 3, .getfield 15, []), (16, 1, .iload_n 2, []), (17, 1, .aload_n 1, []), (18, 1, .iload_n 2, []), (19, 3, .invokevirtual 48, [1]), (22, 1, .iastore, []), (23, 3, .iinc 2 1, []), (26, 3, .goto (-20), []), (29, 1, .iconst 0, []), (30, 1, .istore_n 2, []), (31, 1, .iload_n 2, []), (32, 2, .bipush 6, []), (34, 3, .if_icmp .ge 89, []), (37, 1, .iconst 0, []), (38, 1, .istore_n 3, []), (39, 1, .iload_n 3, []), (40, 2, .bipush 6, []), (42, 3, .if_icmp .ge 75, []), (45, 1, .aload_n 0, []), (46, 3, .getfield 15, []), (49, 1, .iload_n 2, []), (50, 1, .iaload, []), (51, 3, .ifCond .ge 60, []), (54, 1, .aload_n 0, []), (55, 3, .getfield 15, []), (58, 1, .iload_n 3, []), (59, 1, .iaload, []), (60, 3, .ifCond .le 51, []), (63, 1, .aload_n 0, []), (64, 3, .getfield 15, []), (67, 1, .iload_n 2, []), (68, 1, .iaload, []), (69, 1, .ineg, []), (70, 1, .aload_n 0, []), (71, 3, .getfield 15, []), (74, 1, .iload_n 3, []), (75, 1, .iaload, []), (76, 3, .invokestatic 59, [2]), (79, 2, .istore 4, []), (81, 1, .aload_n 0, []), (82, 1, .iload_n 2, []), (83, 1, .iload_n 3, []), (84, 2, .iload 4, []), (86, 3, .invokevirtual 62, [3]), (89, 1, .aload_n 0, []), (90, 3, .getfield 15, []), (93, 1, .iload_n 2, []), (94, 1, .dup2, []), (95, 1, .iaload, []), (96, 2, .iload 4, []), (98, 1, .iadd, []), (99, 1, .iastore, []), (100, 1, .aload_n 0, []), (101, 3, .getfield 15, []), (104, 1, .iload_n 3, []), (105, 1, .dup2, []), (106, 1, .iaload, []), (107, 2, .iload 4, []), (109, 1, .isub, []), (110, 1, .iastore, []), (111, 3, .iinc 3 1, []), (114, 3, .goto (-75), []), (117, 3, .iinc 2 1, []), (120, 3, .goto (-89), []), (123, 1, .return_, [])]
def zu_X1_strikeFrom : List zf_U := [(6, ([(0, 6)], [], 66, [(0, .inr (some (72, 64))), (1, .inr (some (72, 65))), (2, .inl ([(0, 1)], 0))], [], []), ([(0, (-1))], 79), 0),
  (31, ([(0, 6)], [], 66, [(0, .inr (some (72, 64))), (1, .inr (some (72, 65))), (2, .inl ([(0, 1)], 0))], [], []), ([(0, (-9))], 63), 0),
  (39, ([(0, 5), (0, 6)], [], 66, [(0, .inr (some (72, 64))), (1, .inr (some (72, 65))), (2, .inl ([(0, 1)], 0)), (3, .inl ([(1, 1)], 0))], [], []), ([(0, (-9)), (1, (-1))], 61), 0)]
theorem zw_486 : (Jvm.Cond.code yX1_clear cX1_clear 1 none) ∈ lw_g := lw_t2 rfl (List.mem_of_getElem? (i := 152) rfl)
theorem zw_870 : (Jvm.Cond.methodLink RX1 56 yX1_clear) ∈ lw_g := lw_t4 rfl (List.mem_of_getElem? (i := 56) rfl)
theorem zw_484 : (Jvm.Cond.instanceMethod yX1_clear) ∈ lw_g := lw_t2 rfl (List.mem_of_getElem? (i := 150) rfl)
theorem zw_485 : (Jvm.Cond.selects RX1 yX1_clear yX1_clear) ∈ lw_g := lw_t2 rfl (List.mem_of_getElem? (i := 151) rfl)
theorem zw_877 : (Jvm.Cond.methodLink RX1 59 Lib.Math.min.name) ∈ lw_g := lw_t4 rfl (List.mem_of_getElem? (i := 63) rfl)
theorem zw_760 : (Jvm.Cond.static Lib.Math.min.name) ∈ lw_g := lw_t3 rfl (List.mem_of_getElem? (i := 186) rfl)
theorem zw_761 : (Jvm.Cond.code Lib.Math.min.name Lib.Math.min.code 2 (some .int)) ∈ lw_g := lw_t3 rfl (List.mem_of_getElem? (i := 187) rfl)
theorem zw_593 : (Jvm.Cond.code yX1_put cX1_put 4 none) ∈ lw_g := lw_t3 rfl (List.mem_of_getElem? (i := 19) rfl)
theorem zw_878 : (Jvm.Cond.methodLink RX1 62 yX1_put) ∈ lw_g := lw_t4 rfl (List.mem_of_getElem? (i := 64) rfl)
theorem zw_591 : (Jvm.Cond.instanceMethod yX1_put) ∈ lw_g := lw_t3 rfl (List.mem_of_getElem? (i := 17) rfl)
theorem zw_592 : (Jvm.Cond.selects RX1 yX1_put yX1_put) ∈ lw_g := lw_t3 rfl (List.mem_of_getElem? (i := 18) rfl)
theorem zw_257 : (Jvm.Cond.fieldLink RX1 15 "RungMoney$Debts" "balances" "[I") ∈ lw_g := lw_t1 rfl (List.mem_of_getElem? (i := 163) rfl)
set_option maxRecDepth 100000 in
set_option maxHeartbeats 4000000 in
theorem kc_X1_strikeFrom (l : Launch) (D : va_G) (k : Nat → ClassId) (B0 : Nat) (ad : Nat → Nat) (al sw : Nat) : zf_Con l yX1_strikeFrom (zw yX1_strikeFrom cX1_strikeFrom 5 none) ({ frames := 5, cells := 0, slots := 0, locals := 109 }) D k (zEx B0 ad al sw) zGT 37 zm_X1_strikeFrom := by
  have hEx := zEx_ok B0 ad al sw
  refine zf_mk (cc := cX1_strikeFrom) (nL := 5) (ret := none) (Ms := [zm_X1_clear, zm_X1_balance, zf_mMin, zm_X1_put]) (fg := [(15, 0, 1, .inl (0, 0))]) (fp := []) (ins := zn_X1_strikeFrom) (cuts := zu_X1_strikeFrom) (fuel := 3000) (by decide) rfl hEx (by decide +kernel) (by decide +kernel) (by decide +kernel) (by decide +kernel) ?_
  intro p e s m args below meth c Q Sg w0 A θ0 S hK hE hAB hA hone hsing
  refine ⟨?_, ?_, ?_⟩
  · exact zf_ac ((fun H locs ws a q0 fs v rest pc ls hP he hv hdg kk => va_get (D := D) (ci := 0) (C := RX1) (T := TX1) (N := 2) (own := RX1) S.1 S.2.1 S.2.2.2.2 (zg_in inW_X1) S.2.2.2.1 hK hP q0 he rfl 1 (by decide) (S.2.2.2.2 (.fieldLink RX1 15 "RungMoney$Debts" "balances" "[I") (List.mem_cons_of_mem _ zw_257)) (fun _ h9 => h9) hv hdg kk)) zf_an
  · exact zf_an
  · exact zf_crl (xs := [(.invokevirtual 56, 3, 0), (.invokevirtual 48, 3, 1), (.invokestatic 59, 3, 2), (.invokevirtual 62, 3, 3)]) (by decide +kernel) (zf_ac (zf_crV S hEx hE hAB hA hK hone hsing (kc_X1_clear l D k B0 ad al sw) (cwV 0 S.2.2.2.2 (zg_V zw_870 zw_484 zw_485 zw_101 zw_486) rfl rfl rfl (by decide +kernel) ⟨(Nat.le_of_ble_eq_true rfl), (Nat.le_of_ble_eq_true rfl)⟩) ⟨(Nat.le_of_ble_eq_true rfl), (Nat.le_of_ble_eq_true rfl)⟩ 0 rfl rfl (ar := []) rfl rfl (by decide +kernel)) (zf_ac (zf_crV S hEx hE hAB hA hK hone hsing (kc_X1_balance l D k B0 ad al sw) (cwV 1 S.2.2.2.2 (zg_V zw_871 zw_872 zw_873 zw_101 zw_874) rfl rfl rfl (by decide +kernel) ⟨(Nat.le_of_ble_eq_true rfl), (Nat.le_of_ble_eq_true rfl)⟩) ⟨(Nat.le_of_ble_eq_true rfl), (Nat.le_of_ble_eq_true rfl)⟩ 0 rfl rfl (ar := [.inl ([(0, 1)], 0)]) rfl rfl (by decide +kernel)) (zf_ac (zf_crmin (own := RX1) S.1 S.2.1 S.2.2.1 S.2.2.2.1 (S.2.2.2.2 (.methodLink RX1 59 Lib.Math.min.name) (List.mem_cons_of_mem _ zw_877)) (S.2.2.2.2 (.static Lib.Math.min.name) (List.mem_cons_of_mem _ zw_760)) (S.2.2.2.2 (.initialized "java/lang/Math") (List.mem_cons_of_mem _ zw_116)) (S.2.2.2.2 (.code Lib.Math.min.name Lib.Math.min.code 2 (some .int)) (List.mem_cons_of_mem _ zw_761)) (Nat.le_of_ble_eq_true rfl) (Nat.le_of_ble_eq_true rfl) (Nat.le_of_ble_eq_true rfl) (Nat.le_of_ble_eq_true rfl)) (zf_ac (zf_crV S hEx hE hAB hA hK hone hsing (kc_X1_put l D k B0 ad al sw) (cwV 3 S.2.2.2.2 (zg_V zw_878 zw_591 zw_592 zw_101 zw_593) rfl rfl rfl (by decide +kernel) ⟨(Nat.le_of_ble_eq_true rfl), (Nat.le_of_ble_eq_true rfl)⟩) ⟨(Nat.le_of_ble_eq_true rfl), (Nat.le_of_ble_eq_true rfl)⟩ 0 rfl rfl (ar := [.inl ([(2, 1)], 0), .inl ([(1, 1)], 0), .inl ([(0, 1)], 0)]) rfl rfl (by decide +kernel)) zf_an))))
def zm_X2_find : zf_M := (([], [], 64, [], [.inr none], []), [], [(some (.inr (some (128, 64))), ([], [], 65, [], [], []))])
def zn_X2_find : List zf_X := [(0, 1, .iconst 0, []), (1, 1, .istore_n 2, []), (2, 1, .iload_n 2, []), (3, 3, .getstatic 125, [0]), (6, 1, .arraylength, [1]), (7, 3, .if_icmp .ge 28, []), (10, 3, .getstatic 125, [0]), (13, 1, .iload_n 2, []), (14, 1, .aaload, [2]), (15, 3, .getfield 111, [3]), (18, 1, .lload_n 0, []), (19, 1, .lcmp, []), (20, 3, .ifCond .ne 9, []), (23, 3, .getstatic 125, [0]), (26, 1, .iload_n 2, []), (27, 1, .aaload, [2]), (28, 1, .areturn, []), (29, 3, .iinc 2 1, []), (32, 3, .goto (-30), []), (35, 3, .getstatic 5, [4]), (38, 1, .areturn, [])]
def zu_X2_find : List zf_U := [(2, ([(0, 24)], [], 64, [(0, .inr none), (2, .inl ([(0, 1)], 0))], [], []), ([(0, (-1))], 25), 0)]
theorem zw_516 : (Jvm.Cond.fieldLink RX2 125 "RungMoney$Key" "ALL" "[LRungMoney$Key;") ∈ lw_g := lw_t2 rfl (List.mem_of_getElem? (i := 182) rfl)
theorem zw_1973 : (Jvm.Cond.fieldLink RX2 111 "RungMoney$Key" "code" "J") ∈ lw_g := lw_t8 rfl (List.mem_of_getElem? (i := 199) rfl)
theorem zw_518 : (Jvm.Cond.fieldLink RX2 5 "RungMoney$Key" "OTHER" "LRungMoney$Key;") ∈ lw_g := lw_t2 rfl (List.mem_of_getElem? (i := 184) rfl)
set_option maxRecDepth 100000 in
set_option maxHeartbeats 4000000 in
theorem kc_X2_find (l : Launch) (D : va_G) (k : Nat → ClassId) (B0 : Nat) (ad : Nat → Nat) (al sw : Nat) : zf_Con l yX2_find (zw yX2_find cX2_find 3 (some (.object "RungMoney$Key"))) ({ frames := 0, cells := 0, slots := 0, locals := 0 }) D k (zEx B0 ad al sw) zGT 37 zm_X2_find := by
  have hEx := zEx_ok B0 ad al sw
  refine zf_mk (cc := cX2_find) (nL := 3) (ret := (some (.object "RungMoney$Key"))) (Ms := [zf_mS 129, zf_mRN 129, zf_mRA, zf_mKL, zf_mS 128]) (fg := []) (fp := []) (ins := zn_X2_find) (cuts := zu_X2_find) (fuel := 3000) (by decide) rfl hEx (by decide +kernel) (by decide +kernel) (by decide +kernel) (by decide +kernel) ?_
  intro p e s m args below meth c Q Sg w0 A θ0 S hK hE hAB hA hone hsing
  refine ⟨?_, ?_, ?_⟩
  · exact zf_an
  · exact zf_an
  · exact zf_crl (xs := [(.getstatic 125, 3, 0), (.arraylength, 1, 1), (.aaload, 1, 2), (.getfield 111, 3, 3), (.getstatic 5, 3, 4)]) (by decide +kernel) (zf_ac (zf_crga S hE hAB (S.2.2.2.2 (.fieldLink RX2 125 "RungMoney$Key" "ALL" "[LRungMoney$Key;") (List.mem_cons_of_mem _ zw_516))) (zf_ac (zf_crrn S hE hAB) (zf_ac (zf_crra S hE hAB) (zf_ac (zf_crkl S hE hAB (S.2.2.2.2 (.fieldLink RX2 111 "RungMoney$Key" "code" "J") (List.mem_cons_of_mem _ zw_1973))) (zf_ac (zf_crgs S hE hAB 0 (by decide) rfl (S.2.2.2.2 (.fieldLink RX2 5 "RungMoney$Key" "OTHER" "LRungMoney$Key;") (List.mem_cons_of_mem _ zw_518))) zf_an)))))
def zm_X2_needsMan : zf_M := (([], [], 65, [], [.inr (some (128, 64))], []), [], [(some (.inl ([], 1)), ([], [], 65, [], [], [])), (some (.inl ([], 0)), ([], [], 65, [], [], []))])
def zn_X2_needsMan : List zf_X := [(0, 1, .aload_n 0, []), (1, 3, .getstatic 21, [0]), (4, 3, .if_acmp .eq 10, []), (7, 1, .aload_n 0, []), (8, 3, .getstatic 30, [0]), (11, 3, .if_acmp .ne 7, []), (14, 1, .iconst 1, []), (15, 3, .goto 4, []), (18, 1, .iconst 0, []), (19, 1, .ireturn, [])]
def zu_X2_needsMan : List zf_U := []
theorem zw_1053 : (Jvm.Cond.fieldLink RX2 21 "RungMoney$Key" "PAYS" "LRungMoney$Key;") ∈ lw_g := lw_t4 rfl (List.mem_of_getElem? (i := 239) rfl)
theorem zw_1055 : (Jvm.Cond.fieldLink RX2 30 "RungMoney$Key" "CLIMBS" "LRungMoney$Key;") ∈ lw_g := lw_t5 rfl (List.mem_of_getElem? (i := 1) rfl)
set_option maxRecDepth 100000 in
set_option maxHeartbeats 4000000 in
theorem kc_X2_needsMan (l : Launch) (D : va_G) (k : Nat → ClassId) (B0 : Nat) (ad : Nat → Nat) (al sw : Nat) : zf_Con l yX2_needsMan (zw yX2_needsMan cX2_needsMan 1 (some .boolean)) ({ frames := 0, cells := 0, slots := 0, locals := 0 }) D k (zEx B0 ad al sw) zGT 37 zm_X2_needsMan := by
  have hEx := zEx_ok B0 ad al sw
  refine zf_mk (cc := cX2_needsMan) (nL := 1) (ret := (some .boolean)) (Ms := [zf_mS 128]) (fg := []) (fp := []) (ins := zn_X2_needsMan) (cuts := zu_X2_needsMan) (fuel := 3000) (by decide) rfl hEx (by decide +kernel) (by decide +kernel) (by decide +kernel) (by decide +kernel) ?_
  intro p e s m args below meth c Q Sg w0 A θ0 S hK hE hAB hA hone hsing
  refine ⟨?_, ?_, ?_⟩
  · exact zf_an
  · exact zf_an
  · exact zf_crl (xs := [(.getstatic 21, 3, 0), (.getstatic 30, 3, 0)]) (by decide +kernel) (zf_ac (zf_crgs S hE hAB 5 (by decide) rfl (S.2.2.2.2 (.fieldLink RX2 21 "RungMoney$Key" "PAYS" "LRungMoney$Key;") (List.mem_cons_of_mem _ zw_1053))) (zf_ac (zf_crgs S hE hAB 8 (by decide) rfl (S.2.2.2.2 (.fieldLink RX2 30 "RungMoney$Key" "CLIMBS" "LRungMoney$Key;") (List.mem_cons_of_mem _ zw_1055))) zf_an))
def zm_X2_isMeasure : zf_M := (([], [], 65, [], [.inr (some (128, 64))], []), [], [(some (.inl ([], 1)), ([], [], 65, [], [], [])), (some (.inl ([], 0)), ([], [], 65, [], [], []))])
def zn_X2_isMeasure : List zf_X := [(0, 1, .aload_n 0, []), (1, 3, .getstatic 66, [0]), (4, 3, .if_acmp .eq 24, []), (7, 1, .aload_n 0, []), (8, 3, .getstatic 69, [0]), (11, 3, .if_acmp .eq 17, []), (14, 1, .aload_n 0, []), (15, 3, .getstatic 72, [0]), (18, 3, .if_acmp .eq 10, []), (21, 1, .aload_n 0, []), (22, 3, .getstatic 75, [0]), (25, 3, .if_acmp .ne 7, []), (28, 1, .iconst 1, []), (29, 3, .goto 4, []), (32, 1, .iconst 0, []), (33, 1, .ireturn, [])]
def zu_X2_isMeasure : List zf_U := []
theorem zw_1140 : (Jvm.Cond.fieldLink RX2 66 "RungMoney$Key" "LONG" "LRungMoney$Key;") ∈ lw_g := lw_t5 rfl (List.mem_of_getElem? (i := 86) rfl)
theorem zw_1142 : (Jvm.Cond.fieldLink RX2 69 "RungMoney$Key" "LOOKS" "LRungMoney$Key;") ∈ lw_g := lw_t5 rfl (List.mem_of_getElem? (i := 88) rfl)
theorem zw_1144 : (Jvm.Cond.fieldLink RX2 72 "RungMoney$Key" "WORTH" "LRungMoney$Key;") ∈ lw_g := lw_t5 rfl (List.mem_of_getElem? (i := 90) rfl)
theorem zw_1146 : (Jvm.Cond.fieldLink RX2 75 "RungMoney$Key" "NUMBER" "LRungMoney$Key;") ∈ lw_g := lw_t5 rfl (List.mem_of_getElem? (i := 92) rfl)
set_option maxRecDepth 100000 in
set_option maxHeartbeats 4000000 in
theorem kc_X2_isMeasure (l : Launch) (D : va_G) (k : Nat → ClassId) (B0 : Nat) (ad : Nat → Nat) (al sw : Nat) : zf_Con l yX2_isMeasure (zw yX2_isMeasure cX2_isMeasure 1 (some .boolean)) ({ frames := 0, cells := 0, slots := 0, locals := 0 }) D k (zEx B0 ad al sw) zGT 37 zm_X2_isMeasure := by
  have hEx := zEx_ok B0 ad al sw
  refine zf_mk (cc := cX2_isMeasure) (nL := 1) (ret := (some .boolean)) (Ms := [zf_mS 128]) (fg := []) (fp := []) (ins := zn_X2_isMeasure) (cuts := zu_X2_isMeasure) (fuel := 3000) (by decide) rfl hEx (by decide +kernel) (by decide +kernel) (by decide +kernel) (by decide +kernel) ?_
  intro p e s m args below meth c Q Sg w0 A θ0 S hK hE hAB hA hone hsing
  refine ⟨?_, ?_, ?_⟩
  · exact zf_an
  · exact zf_an
  · exact zf_crl (xs := [(.getstatic 66, 3, 0), (.getstatic 69, 3, 0), (.getstatic 72, 3, 0), (.getstatic 75, 3, 0)]) (by decide +kernel) (zf_ac (zf_crgs S hE hAB 20 (by decide) rfl (S.2.2.2.2 (.fieldLink RX2 66 "RungMoney$Key" "LONG" "LRungMoney$Key;") (List.mem_cons_of_mem _ zw_1140))) (zf_ac (zf_crgs S hE hAB 21 (by decide) rfl (S.2.2.2.2 (.fieldLink RX2 69 "RungMoney$Key" "LOOKS" "LRungMoney$Key;") (List.mem_cons_of_mem _ zw_1142))) (zf_ac (zf_crgs S hE hAB 22 (by decide) rfl (S.2.2.2.2 (.fieldLink RX2 72 "RungMoney$Key" "WORTH" "LRungMoney$Key;") (List.mem_cons_of_mem _ zw_1144))) (zf_ac (zf_crgs S hE hAB 23 (by decide) rfl (S.2.2.2.2 (.fieldLink RX2 75 "RungMoney$Key" "NUMBER" "LRungMoney$Key;") (List.mem_cons_of_mem _ zw_1146))) zf_an))))
def zm_X2_isPlain : zf_M := (([], [], 65, [], [.inr (some (128, 64))], []), [], [(some (.inl ([], 1)), ([], [], 65, [], [], [])), (some (.inl ([], 0)), ([], [], 65, [], [], []))])
def zn_X2_isPlain : List zf_X := [(0, 1, .aload_n 0, []), (1, 3, .getstatic 54, [0]), (4, 3, .if_acmp .eq 17, []), (7, 1, .aload_n 0, []), (8, 3, .getstatic 57, [0]), (11, 3, .if_acmp .eq 10, []), (14, 1, .aload_n 0, []), (15, 3, .getstatic 60, [0]), (18, 3, .if_acmp .ne 7, []), (21, 1, .iconst 1, []), (22, 3, .goto 4, []), (25, 1, .iconst 0, []), (26, 1, .ireturn, [])]
def zu_X2_isPlain : List zf_U := []
theorem zw_1130 : (Jvm.Cond.fieldLink RX2 54 "RungMoney$Key" "GONE" "LRungMoney$Key;") ∈ lw_g := lw_t5 rfl (List.mem_of_getElem? (i := 76) rfl)
theorem zw_1132 : (Jvm.Cond.fieldLink RX2 57 "RungMoney$Key" "BEARS" "LRungMoney$Key;") ∈ lw_g := lw_t5 rfl (List.mem_of_getElem? (i := 78) rfl)
theorem zw_1134 : (Jvm.Cond.fieldLink RX2 60 "RungMoney$Key" "FALSE" "LRungMoney$Key;") ∈ lw_g := lw_t5 rfl (List.mem_of_getElem? (i := 80) rfl)
set_option maxRecDepth 100000 in
set_option maxHeartbeats 4000000 in
theorem kc_X2_isPlain (l : Launch) (D : va_G) (k : Nat → ClassId) (B0 : Nat) (ad : Nat → Nat) (al sw : Nat) : zf_Con l yX2_isPlain (zw yX2_isPlain cX2_isPlain 1 (some .boolean)) ({ frames := 0, cells := 0, slots := 0, locals := 0 }) D k (zEx B0 ad al sw) zGT 37 zm_X2_isPlain := by
  have hEx := zEx_ok B0 ad al sw
  refine zf_mk (cc := cX2_isPlain) (nL := 1) (ret := (some .boolean)) (Ms := [zf_mS 128]) (fg := []) (fp := []) (ins := zn_X2_isPlain) (cuts := zu_X2_isPlain) (fuel := 3000) (by decide) rfl hEx (by decide +kernel) (by decide +kernel) (by decide +kernel) (by decide +kernel) ?_
  intro p e s m args below meth c Q Sg w0 A θ0 S hK hE hAB hA hone hsing
  refine ⟨?_, ?_, ?_⟩
  · exact zf_an
  · exact zf_an
  · exact zf_crl (xs := [(.getstatic 54, 3, 0), (.getstatic 57, 3, 0), (.getstatic 60, 3, 0)]) (by decide +kernel) (zf_ac (zf_crgs S hE hAB 16 (by decide) rfl (S.2.2.2.2 (.fieldLink RX2 54 "RungMoney$Key" "GONE" "LRungMoney$Key;") (List.mem_cons_of_mem _ zw_1130))) (zf_ac (zf_crgs S hE hAB 17 (by decide) rfl (S.2.2.2.2 (.fieldLink RX2 57 "RungMoney$Key" "BEARS" "LRungMoney$Key;") (List.mem_cons_of_mem _ zw_1132))) (zf_ac (zf_crgs S hE hAB 18 (by decide) rfl (S.2.2.2.2 (.fieldLink RX2 60 "RungMoney$Key" "FALSE" "LRungMoney$Key;") (List.mem_cons_of_mem _ zw_1134))) zf_an)))
def zm_X3_copy : zf_M := (([], [], 66, [], [.inr (some (66, 65)), .inr (some (66, 64))], []), [(66, ([], 0), ([], 0)), (67, ([], 0), ([], 15)), (68, ([], 0), ([], 15)), (69, ([], 0), ([], 15)), (70, ([], 0), ([], 15)), (71, ([], 0), ([], 15))], [(none, ([], [], 66, [], [], []))])
def zn_X3_copy : List zf_X := [(0, 1, .aload_n 0, []), (1, 1, .aload_n 1, []), (2, 3, .getfield 27, []), (5, 3, .putfield 27, []), (8, 1, .aload_n 1, []), (9, 3, .getfield 9, []), (12, 1, .iconst 0, []), (13, 1, .aload_n 0, []), (14, 3, .getfield 9, []), (17, 1, .iconst 0, []), (18, 2, .bipush 16, []), (20, 3, .invokestatic 31, [0]), (23, 1, .aload_n 1, []), (24, 3, .getfield 15, []), (27, 1, .iconst 0, []), (28, 1, .aload_n 0, []), (29, 3, .getfield 15, []), (32, 1, .iconst 0, []), (33, 2, .bipush 16, []), (35, 3, .invokestatic 31, [1]), (38, 1, .aload_n 1, []), (39, 3, .getfield 18, []), (42, 1, .iconst 0, []), (43, 1, .aload_n 0, []), (44, 3, .getfield 18, []), (47, 1, .iconst 0, []), (48, 2, .bipush 16, []), (50, 3, .invokestatic 31, [2]), (53, 1, .aload_n 1, []), (54, 3, .getfield 21, []), (57, 1, .iconst 0, []), (58, 1, .aload_n 0, []), (59, 3, .getfield 21, []), (62, 1, .iconst 0, []), (63, 2, .bipush 16, []), (65, 3, .invokestatic 31, [3]), (68, 1, .aload_n 1, []), (69, 3, .getfield 24, []), (72, 1, .iconst 0, []), (73, 1, .aload_n 0, []), (74, 3, .getfield 24, []), (77, 1, .iconst 0, []), (78, 2, .bipush 16, []), (80, 3, .invokestatic 31, [4]), (83, 1, .return_, [])]
def zu_X3_copy : List zf_U := []
set_option maxRecDepth 100000 in
theorem inW_X3 : ∀ w ∈ wsX30, w ∈ lw_g := by decide +kernel
theorem zw_619 : (Jvm.Cond.methodLink RX3 31 arraycopyName) ∈ lw_g := lw_t3 rfl (List.mem_of_getElem? (i := 45) rfl)
theorem zw_231 : (Jvm.Cond.fieldLink RX3 9 "RungMoney$Ladders" "owners" "[I") ∈ lw_g := lw_t1 rfl (List.mem_of_getElem? (i := 137) rfl)
theorem zw_232 : (Jvm.Cond.fieldLink RX3 15 "RungMoney$Ladders" "lengths" "[I") ∈ lw_g := lw_t1 rfl (List.mem_of_getElem? (i := 138) rfl)
theorem zw_233 : (Jvm.Cond.fieldLink RX3 18 "RungMoney$Ladders" "sounds" "[I") ∈ lw_g := lw_t1 rfl (List.mem_of_getElem? (i := 139) rfl)
theorem zw_234 : (Jvm.Cond.fieldLink RX3 21 "RungMoney$Ladders" "paints" "[I") ∈ lw_g := lw_t1 rfl (List.mem_of_getElem? (i := 140) rfl)
theorem zw_235 : (Jvm.Cond.fieldLink RX3 24 "RungMoney$Ladders" "hands" "[I") ∈ lw_g := lw_t1 rfl (List.mem_of_getElem? (i := 141) rfl)
theorem zw_225 : (Jvm.Cond.fieldLink RX3 27 "RungMoney$Ladders" "size" "I") ∈ lw_g := lw_t1 rfl (List.mem_of_getElem? (i := 131) rfl)
set_option maxRecDepth 100000 in
set_option maxHeartbeats 4000000 in
theorem kc_X3_copy (l : Launch) (D : va_G) (k : Nat → ClassId) (B0 : Nat) (ad : Nat → Nat) (al sw : Nat) : zf_Con l yX3_copy (zw yX3_copy cX3_copy 2 none) ({ frames := 1, cells := 0, slots := 0, locals := 60 }) D k (zEx B0 ad al sw) zGT 37 zm_X3_copy := by
  have hEx := zEx_ok B0 ad al sw
  refine zf_mk (cc := cX3_copy) (nL := 2) (ret := none) (Ms := [zf_mCp 67 64 67 65 66 16 0, zf_mCp 68 64 68 65 66 16 0, zf_mCp 69 64 69 65 66 16 0, zf_mCp 70 64 70 65 66 16 0, zf_mCp 71 64 71 65 66 16 0]) (fg := [(9, 1, 1, .inl (0, 0)), (15, 1, 2, .inl (0, 0)), (18, 1, 3, .inl (0, 0)), (21, 1, 4, .inl (0, 0)), (24, 1, 5, .inl (0, 0)), (27, 1, 0, .inl (0, 0))]) (fp := [(27, 1, 0, .inl ((-2147483648), 2147483647))]) (ins := zn_X3_copy) (cuts := zu_X3_copy) (fuel := 3000) (by decide) rfl hEx (by decide +kernel) (by decide +kernel) (by decide +kernel) (by decide +kernel) ?_
  intro p e s m args below meth c Q Sg w0 A θ0 S hK hE hAB hA hone hsing
  refine ⟨?_, ?_, ?_⟩
  · exact zf_ac ((fun H locs ws a q0 fs v rest pc ls hP he hv hdg kk => va_get (D := D) (ci := 1) (C := RX3) (T := TX3) (N := 6) (own := RX3) S.1 S.2.1 S.2.2.2.2 (zg_in inW_X3) S.2.2.2.1 hK hP q0 he rfl 1 (by decide) (S.2.2.2.2 (.fieldLink RX3 9 "RungMoney$Ladders" "owners" "[I") (List.mem_cons_of_mem _ zw_231)) (fun _ h9 => h9) hv hdg kk)) (zf_ac ((fun H locs ws a q0 fs v rest pc ls hP he hv hdg kk => va_get (D := D) (ci := 1) (C := RX3) (T := TX3) (N := 6) (own := RX3) S.1 S.2.1 S.2.2.2.2 (zg_in inW_X3) S.2.2.2.1 hK hP q0 he rfl 2 (by decide) (S.2.2.2.2 (.fieldLink RX3 15 "RungMoney$Ladders" "lengths" "[I") (List.mem_cons_of_mem _ zw_232)) (fun _ h9 => h9) hv hdg kk)) (zf_ac ((fun H locs ws a q0 fs v rest pc ls hP he hv hdg kk => va_get (D := D) (ci := 1) (C := RX3) (T := TX3) (N := 6) (own := RX3) S.1 S.2.1 S.2.2.2.2 (zg_in inW_X3) S.2.2.2.1 hK hP q0 he rfl 3 (by decide) (S.2.2.2.2 (.fieldLink RX3 18 "RungMoney$Ladders" "sounds" "[I") (List.mem_cons_of_mem _ zw_233)) (fun _ h9 => h9) hv hdg kk)) (zf_ac ((fun H locs ws a q0 fs v rest pc ls hP he hv hdg kk => va_get (D := D) (ci := 1) (C := RX3) (T := TX3) (N := 6) (own := RX3) S.1 S.2.1 S.2.2.2.2 (zg_in inW_X3) S.2.2.2.1 hK hP q0 he rfl 4 (by decide) (S.2.2.2.2 (.fieldLink RX3 21 "RungMoney$Ladders" "paints" "[I") (List.mem_cons_of_mem _ zw_234)) (fun _ h9 => h9) hv hdg kk)) (zf_ac ((fun H locs ws a q0 fs v rest pc ls hP he hv hdg kk => va_get (D := D) (ci := 1) (C := RX3) (T := TX3) (N := 6) (own := RX3) S.1 S.2.1 S.2.2.2.2 (zg_in inW_X3) S.2.2.2.1 hK hP q0 he rfl 5 (by decide) (S.2.2.2.2 (.fieldLink RX3 24 "RungMoney$Ladders" "hands" "[I") (List.mem_cons_of_mem _ zw_235)) (fun _ h9 => h9) hv hdg kk)) (zf_ac ((fun H locs ws a q0 fs v rest pc ls hP he hv hdg kk => va_get (D := D) (ci := 1) (C := RX3) (T := TX3) (N := 6) (own := RX3) S.1 S.2.1 S.2.2.2.2 (zg_in inW_X3) S.2.2.2.1 hK hP q0 he rfl 0 (by decide) (S.2.2.2.2 (.fieldLink RX3 27 "RungMoney$Ladders" "size" "I") (List.mem_cons_of_mem _ zw_225)) (fun _ h9 => h9) hv hdg kk)) zf_an)))))
  · exact zf_ac ((fun H locs ws a q0 fs v rest pc ls hP hD hS he hl hv hdg kk => by obtain ⟨x, rfl, h1, h2⟩ := hv; exact va_put (D := D) (ci := 1) (v := .int x) (ty := .int) (C := RX3) (T := TX3) (N := 6) (own := RX3) S.1 S.2.1 S.2.2.2.2 (zg_in inW_X3) tyX3 tyX3_ok nmX3 S.2.2.2.1 hK hP hD hS q0 he rfl 0 (by decide) (S.2.2.2.2 (.fieldLink RX3 27 "RungMoney$Ladders" "size" "I") (List.mem_cons_of_mem _ zw_225)) (fun _ h9 => h9) rfl (by decide +kernel) rfl rfl hl hdg kk)) zf_an
  · exact zf_crl (xs := [(.invokestatic 31, 3, 0), (.invokestatic 31, 3, 1), (.invokestatic 31, 3, 2), (.invokestatic 31, 3, 3), (.invokestatic 31, 3, 4)]) (by decide +kernel) (zf_ac (zf_crcpI (own := RX3) S.1 S.2.1 S.2.2.1 hK S.2.2.2.1 (S.2.2.2.2 (.methodLink RX3 31 arraycopyName) (List.mem_cons_of_mem _ zw_619)) (S.2.2.2.2 (.native arraycopyName) (List.mem_cons_of_mem _ zw_614)) (S.2.2.2.2 (.static arraycopyName) (List.mem_cons_of_mem _ zw_613)) (S.2.2.2.2 (.initialized "java/lang/System") (List.mem_cons_of_mem _ zw_110)) (Nat.le_of_ble_eq_true rfl) (Nat.le_of_ble_eq_true rfl) (by decide +kernel) (by decide +kernel) (by decide +kernel) (by decide +kernel) (by decide) (by decide) (by decide +kernel) (by decide +kernel)) (zf_ac (zf_crcpI (own := RX3) S.1 S.2.1 S.2.2.1 hK S.2.2.2.1 (S.2.2.2.2 (.methodLink RX3 31 arraycopyName) (List.mem_cons_of_mem _ zw_619)) (S.2.2.2.2 (.native arraycopyName) (List.mem_cons_of_mem _ zw_614)) (S.2.2.2.2 (.static arraycopyName) (List.mem_cons_of_mem _ zw_613)) (S.2.2.2.2 (.initialized "java/lang/System") (List.mem_cons_of_mem _ zw_110)) (Nat.le_of_ble_eq_true rfl) (Nat.le_of_ble_eq_true rfl) (by decide +kernel) (by decide +kernel) (by decide +kernel) (by decide +kernel) (by decide) (by decide) (by decide +kernel) (by decide +kernel)) (zf_ac (zf_crcpI (own := RX3) S.1 S.2.1 S.2.2.1 hK S.2.2.2.1 (S.2.2.2.2 (.methodLink RX3 31 arraycopyName) (List.mem_cons_of_mem _ zw_619)) (S.2.2.2.2 (.native arraycopyName) (List.mem_cons_of_mem _ zw_614)) (S.2.2.2.2 (.static arraycopyName) (List.mem_cons_of_mem _ zw_613)) (S.2.2.2.2 (.initialized "java/lang/System") (List.mem_cons_of_mem _ zw_110)) (Nat.le_of_ble_eq_true rfl) (Nat.le_of_ble_eq_true rfl) (by decide +kernel) (by decide +kernel) (by decide +kernel) (by decide +kernel) (by decide) (by decide) (by decide +kernel) (by decide +kernel)) (zf_ac (zf_crcpI (own := RX3) S.1 S.2.1 S.2.2.1 hK S.2.2.2.1 (S.2.2.2.2 (.methodLink RX3 31 arraycopyName) (List.mem_cons_of_mem _ zw_619)) (S.2.2.2.2 (.native arraycopyName) (List.mem_cons_of_mem _ zw_614)) (S.2.2.2.2 (.static arraycopyName) (List.mem_cons_of_mem _ zw_613)) (S.2.2.2.2 (.initialized "java/lang/System") (List.mem_cons_of_mem _ zw_110)) (Nat.le_of_ble_eq_true rfl) (Nat.le_of_ble_eq_true rfl) (by decide +kernel) (by decide +kernel) (by decide +kernel) (by decide +kernel) (by decide) (by decide) (by decide +kernel) (by decide +kernel)) (zf_ac (zf_crcpI (own := RX3) S.1 S.2.1 S.2.2.1 hK S.2.2.2.1 (S.2.2.2.2 (.methodLink RX3 31 arraycopyName) (List.mem_cons_of_mem _ zw_619)) (S.2.2.2.2 (.native arraycopyName) (List.mem_cons_of_mem _ zw_614)) (S.2.2.2.2 (.static arraycopyName) (List.mem_cons_of_mem _ zw_613)) (S.2.2.2.2 (.initialized "java/lang/System") (List.mem_cons_of_mem _ zw_110)) (Nat.le_of_ble_eq_true rfl) (Nat.le_of_ble_eq_true rfl) (by decide +kernel) (by decide +kernel) (by decide +kernel) (by decide +kernel) (by decide) (by decide) (by decide +kernel) (by decide +kernel)) zf_an)))))
def zm_X3_has : zf_M := (([((-2147483648), 2147483647)], [], 65, [], [.inl ([(0, 1)], 0), .inr (some (66, 64))], []), [], [(some (.inl ([], 1)), ([(0, 15)], [], 65, [], [], [])), (some (.inl ([], 0)), ([(0, 2147483647)], [], 65, [], [], [])), (some (.inl ([], 0)), ([((-2147483648), (-1))], [], 65, [], [], []))])
def zn_X3_has : List zf_X := [(0, 1, .iload_n 1, []), (1, 3, .ifCond .lt 15, []), (4, 1, .iload_n 1, []), (5, 1, .aload_n 0, []), (6, 3, .getfield 27, []), (9, 3, .if_icmp .ge 7, []), (12, 1, .iconst 1, []), (13, 3, .goto 4, []), (16, 1, .iconst 0, []), (17, 1, .ireturn, [])]
def zu_X3_has : List zf_U := []
set_option maxRecDepth 100000 in
set_option maxHeartbeats 4000000 in
theorem kc_X3_has (l : Launch) (D : va_G) (k : Nat → ClassId) (B0 : Nat) (ad : Nat → Nat) (al sw : Nat) : zf_Con l yX3_has (zw yX3_has cX3_has 2 (some .boolean)) ({ frames := 0, cells := 0, slots := 0, locals := 0 }) D k (zEx B0 ad al sw) zGT 37 zm_X3_has := by
  have hEx := zEx_ok B0 ad al sw
  refine zf_mk (cc := cX3_has) (nL := 2) (ret := (some .boolean)) (Ms := []) (fg := [(27, 1, 0, .inl (0, 0))]) (fp := []) (ins := zn_X3_has) (cuts := zu_X3_has) (fuel := 3000) (by decide) rfl hEx (by decide +kernel) (by decide +kernel) (by decide +kernel) (by decide +kernel) ?_
  intro p e s m args below meth c Q Sg w0 A θ0 S hK hE hAB hA hone hsing
  refine ⟨?_, ?_, ?_⟩
  · exact zf_ac ((fun H locs ws a q0 fs v rest pc ls hP he hv hdg kk => va_get (D := D) (ci := 1) (C := RX3) (T := TX3) (N := 6) (own := RX3) S.1 S.2.1 S.2.2.2.2 (zg_in inW_X3) S.2.2.2.1 hK hP q0 he rfl 0 (by decide) (S.2.2.2.2 (.fieldLink RX3 27 "RungMoney$Ladders" "size" "I") (List.mem_cons_of_mem _ zw_225)) (fun _ h9 => h9) hv hdg kk)) zf_an
  · exact zf_an
  · exact zf_crl (xs := []) (by decide +kernel) (zf_an)
def zm_X3_isThere : zf_M := (([((-2147483648), 2147483647)], [], 65, [], [.inl ([(0, 1)], 0), .inr (some (66, 64))], []), [], [(some (.inl ([], 0)), ([((-2147483648), (-1))], [], 65, [], [], [])), (some (.inl ([], 0)), ([(0, 2147483647)], [], 65, [], [], [])), (some (.inl ([], 1)), ([(0, 15)], [], 65, [], [], [])), (some (.inl ([], 0)), ([(0, 15)], [], 65, [], [], []))])
def zn_X3_isThere : List zf_X := [(0, 1, .aload_n 0, []), (1, 1, .iload_n 1, []), (2, 3, .invokevirtual 37, [0]), (5, 3, .ifCond .eq 17, []), (8, 1, .aload_n 0, []), (9, 3, .getfield 9, []), (12, 1, .iload_n 1, []), (13, 1, .iaload, []), (14, 1, .iconst (-1), []), (15, 3, .if_icmp .eq 7, []), (18, 1, .iconst 1, []), (19, 3, .goto 4, []), (22, 1, .iconst 0, []), (23, 1, .ireturn, [])]
def zu_X3_isThere : List zf_U := []
theorem zw_648 : (Jvm.Cond.code yX3_has cX3_has 2 (some .boolean)) ∈ lw_g := lw_t3 rfl (List.mem_of_getElem? (i := 74) rfl)
theorem zw_645 : (Jvm.Cond.methodLink RX3 37 yX3_has) ∈ lw_g := lw_t3 rfl (List.mem_of_getElem? (i := 71) rfl)
theorem zw_646 : (Jvm.Cond.instanceMethod yX3_has) ∈ lw_g := lw_t3 rfl (List.mem_of_getElem? (i := 72) rfl)
theorem zw_647 : (Jvm.Cond.selects RX3 yX3_has yX3_has) ∈ lw_g := lw_t3 rfl (List.mem_of_getElem? (i := 73) rfl)
theorem zw_100 : (Jvm.Cond.initialized RX3) ∈ lw_g := lw_t1 rfl (List.mem_of_getElem? (i := 6) rfl)
set_option maxRecDepth 100000 in
set_option maxHeartbeats 4000000 in
theorem kc_X3_isThere (l : Launch) (D : va_G) (k : Nat → ClassId) (B0 : Nat) (ad : Nat → Nat) (al sw : Nat) : zf_Con l yX3_isThere (zw yX3_isThere cX3_isThere 2 (some .boolean)) ({ frames := 1, cells := 0, slots := 0, locals := 21 }) D k (zEx B0 ad al sw) zGT 37 zm_X3_isThere := by
  have hEx := zEx_ok B0 ad al sw
  refine zf_mk (cc := cX3_isThere) (nL := 2) (ret := (some .boolean)) (Ms := [zm_X3_has]) (fg := [(9, 1, 1, .inl (0, 0))]) (fp := []) (ins := zn_X3_isThere) (cuts := zu_X3_isThere) (fuel := 3000) (by decide) rfl hEx (by decide +kernel) (by decide +kernel) (by decide +kernel) (by decide +kernel) ?_
  intro p e s m args below meth c Q Sg w0 A θ0 S hK hE hAB hA hone hsing
  refine ⟨?_, ?_, ?_⟩
  · exact zf_ac ((fun H locs ws a q0 fs v rest pc ls hP he hv hdg kk => va_get (D := D) (ci := 1) (C := RX3) (T := TX3) (N := 6) (own := RX3) S.1 S.2.1 S.2.2.2.2 (zg_in inW_X3) S.2.2.2.1 hK hP q0 he rfl 1 (by decide) (S.2.2.2.2 (.fieldLink RX3 9 "RungMoney$Ladders" "owners" "[I") (List.mem_cons_of_mem _ zw_231)) (fun _ h9 => h9) hv hdg kk)) zf_an
  · exact zf_an
  · exact zf_crl (xs := [(.invokevirtual 37, 3, 0)]) (by decide +kernel) (zf_ac (zf_crV S hEx hE hAB hA hK hone hsing (kc_X3_has l D k B0 ad al sw) (cwV 1 S.2.2.2.2 (zg_V zw_645 zw_646 zw_647 zw_100 zw_648) rfl rfl rfl (by decide +kernel) ⟨(Nat.le_of_ble_eq_true rfl), (Nat.le_of_ble_eq_true rfl)⟩) ⟨(Nat.le_of_ble_eq_true rfl), (Nat.le_of_ble_eq_true rfl)⟩ 1 rfl rfl (ar := [.inl ([(0, 1)], 0)]) rfl rfl (by decide +kernel)) zf_an)
def zm_J6_bitCount_0f7a4 : zf_M := (([((-2147483648), 2147483647)], [], 64, [], [.inl ([(0, 1)], 0)], []), [], [(some (.inl ([(1, 1)], 0)), ([((-2147483648), 2147483647), (0, 63)], [], 64, [], [], []))])
def zn_J6_bitCount_0f7a4 : List zf_X := [(0, 1, .iload_n 0, []), (1, 1, .iload_n 0, []), (2, 1, .iconst 1, []), (3, 1, .iushr, []), (4, 3, .ldc_w 265, [0]), (7, 1, .iand, []), (8, 1, .isub, []), (9, 1, .istore_n 0, []), (10, 1, .iload_n 0, []), (11, 3, .ldc_w 266, [1]), (14, 1, .iand, []), (15, 1, .iload_n 0, []), (16, 1, .iconst 2, []), (17, 1, .iushr, []), (18, 3, .ldc_w 266, [1]), (21, 1, .iand, []), (22, 1, .iadd, []), (23, 1, .istore_n 0, []), (24, 1, .iload_n 0, []), (25, 1, .iload_n 0, []), (26, 1, .iconst 4, []), (27, 1, .iushr, []), (28, 1, .iadd, []), (29, 3, .ldc_w 267, [2]), (32, 1, .iand, []), (33, 1, .istore_n 0, []), (34, 1, .iload_n 0, []), (35, 1, .iload_n 0, []), (36, 2, .bipush 8, []), (38, 1, .iushr, []), (39, 1, .iadd, []), (40, 1, .istore_n 0, []), (41, 1, .iload_n 0, []), (42, 1, .iload_n 0, []), (43, 2, .bipush 16, []), (45, 1, .iushr, []), (46, 1, .iadd, []), (47, 1, .istore_n 0, []), (48, 1, .iload_n 0, []), (49, 2, .bipush 63, []), (51, 1, .iand, []), (52, 1, .ireturn, [])]
def zu_J6_bitCount_0f7a4 : List zf_U := []
theorem zw_672 : (Jvm.Cond.constant RJ6 265 1431655765) ∈ lw_g := lw_t3 rfl (List.mem_of_getElem? (i := 98) rfl)
theorem zw_673 : (Jvm.Cond.constant RJ6 266 858993459) ∈ lw_g := lw_t3 rfl (List.mem_of_getElem? (i := 99) rfl)
theorem zw_674 : (Jvm.Cond.constant RJ6 267 252645135) ∈ lw_g := lw_t3 rfl (List.mem_of_getElem? (i := 100) rfl)
set_option maxRecDepth 100000 in
set_option maxHeartbeats 4000000 in
theorem kc_J6_bitCount_0f7a4 (l : Launch) (D : va_G) (k : Nat → ClassId) (B0 : Nat) (ad : Nat → Nat) (al sw : Nat) : zf_Con l yJ6_bitCount_0f7a4 (zw yJ6_bitCount_0f7a4 cJ6_bitCount_0f7a4 1 (some .int)) ({ frames := 0, cells := 0, slots := 0, locals := 0 }) D k (zEx B0 ad al sw) zGT 37 zm_J6_bitCount_0f7a4 := by
  have hEx := zEx_ok B0 ad al sw
  refine zf_mk (cc := cJ6_bitCount_0f7a4) (nL := 1) (ret := (some .int)) (Ms := [zf_mC 1431655765, zf_mC 858993459, zf_mC 252645135]) (fg := []) (fp := []) (ins := zn_J6_bitCount_0f7a4) (cuts := zu_J6_bitCount_0f7a4) (fuel := 3000) (by decide) rfl hEx (by decide +kernel) (by decide +kernel) (by decide +kernel) (by decide +kernel) ?_
  intro p e s m args below meth c Q Sg w0 A θ0 S hK hE hAB hA hone hsing
  refine ⟨?_, ?_, ?_⟩
  · exact zf_an
  · exact zf_an
  · exact zf_crl (xs := [(.ldc_w 265, 3, 0), (.ldc_w 266, 3, 1), (.ldc_w 267, 3, 2)]) (by decide +kernel) (zf_ac (zf_crldcw (own := RJ6) S.1 S.2.1 S.2.2.2.1 (v := 1431655765) (S.2.2.2.2 (.constant RJ6 265 1431655765) (List.mem_cons_of_mem _ zw_672)) 1431655765 (by decide)) (zf_ac (zf_crldcw (own := RJ6) S.1 S.2.1 S.2.2.2.1 (v := 858993459) (S.2.2.2.2 (.constant RJ6 266 858993459) (List.mem_cons_of_mem _ zw_673)) 858993459 (by decide)) (zf_ac (zf_crldcw (own := RJ6) S.1 S.2.1 S.2.2.2.1 (v := 252645135) (S.2.2.2.2 (.constant RJ6 267 252645135) (List.mem_cons_of_mem _ zw_674)) 252645135 (by decide)) zf_an)))
def zm_X3_reach : zf_M := (([(0, 15)], [], 65, [], [.inl ([(0, 1)], 0), .inr (some (66, 64))], []), [], [(some (.inl ([(1, 1)], 0)), ([(0, 15), (0, 2147483646)], [], 65, [], [], [])), (some (.inl ([(1, 1)], 0)), ([(0, 15), (0, 2147483647)], [], 65, [], [], []))])
def zn_X3_reach : List zf_X := [(0, 1, .iconst 0, []), (1, 1, .istore_n 2, []), (2, 1, .iload_n 2, []), (3, 1, .aload_n 0, []), (4, 3, .getfield 15, []), (7, 1, .iload_n 1, []), (8, 1, .iaload, []), (9, 3, .if_icmp .ge 23, []), (12, 1, .aload_n 0, []), (13, 3, .getfield 18, []), (16, 1, .iload_n 1, []), (17, 1, .iaload, []), (18, 1, .iload_n 2, []), (19, 1, .iushr, []), (20, 1, .iconst 1, []), (21, 1, .iand, []), (22, 1, .iconst 1, []), (23, 3, .if_icmp .ne 9, []), (26, 3, .iinc 2 1, []), (29, 3, .goto (-27), []), (32, 1, .iload_n 2, []), (33, 1, .ireturn, [])]
def zu_X3_reach : List zf_U := [(2, ([(0, 15), (0, 2147483647)], [], 65, [(0, .inr (some (66, 64))), (1, .inl ([(0, 1)], 0)), (2, .inl ([(1, 1)], 0))], [], []), ([(1, (-1))], 2147483648), 0)]
set_option maxRecDepth 100000 in
set_option maxHeartbeats 4000000 in
theorem kc_X3_reach (l : Launch) (D : va_G) (k : Nat → ClassId) (B0 : Nat) (ad : Nat → Nat) (al sw : Nat) : zf_Con l yX3_reach (zw yX3_reach cX3_reach 3 (some .int)) ({ frames := 0, cells := 0, slots := 0, locals := 0 }) D k (zEx B0 ad al sw) zGT 37 zm_X3_reach := by
  have hEx := zEx_ok B0 ad al sw
  refine zf_mk (cc := cX3_reach) (nL := 3) (ret := (some .int)) (Ms := []) (fg := [(15, 1, 2, .inl (0, 0)), (18, 1, 3, .inl (0, 0))]) (fp := []) (ins := zn_X3_reach) (cuts := zu_X3_reach) (fuel := 3000) (by decide) rfl hEx (by decide +kernel) (by decide +kernel) (by decide +kernel) (by decide +kernel) ?_
  intro p e s m args below meth c Q Sg w0 A θ0 S hK hE hAB hA hone hsing
  refine ⟨?_, ?_, ?_⟩
  · exact zf_ac ((fun H locs ws a q0 fs v rest pc ls hP he hv hdg kk => va_get (D := D) (ci := 1) (C := RX3) (T := TX3) (N := 6) (own := RX3) S.1 S.2.1 S.2.2.2.2 (zg_in inW_X3) S.2.2.2.1 hK hP q0 he rfl 2 (by decide) (S.2.2.2.2 (.fieldLink RX3 15 "RungMoney$Ladders" "lengths" "[I") (List.mem_cons_of_mem _ zw_232)) (fun _ h9 => h9) hv hdg kk)) (zf_ac ((fun H locs ws a q0 fs v rest pc ls hP he hv hdg kk => va_get (D := D) (ci := 1) (C := RX3) (T := TX3) (N := 6) (own := RX3) S.1 S.2.1 S.2.2.2.2 (zg_in inW_X3) S.2.2.2.1 hK hP q0 he rfl 3 (by decide) (S.2.2.2.2 (.fieldLink RX3 18 "RungMoney$Ladders" "sounds" "[I") (List.mem_cons_of_mem _ zw_233)) (fun _ h9 => h9) hv hdg kk)) zf_an)
  · exact zf_an
  · exact zf_crl (xs := []) (by decide +kernel) (zf_an)
def zm_X3_measure : zf_M := (([((-2147483648), 2147483647), ((-2147483648), 2147483647)], [], 65, [], [.inl ([(1, 1)], 0), .inl ([(0, 1)], 0), .inr (some (66, 64))], []), [], [(some (.inl ([(2, 1)], 0)), ([((-2147483648), 2147483647), ((-2147483648), 2147483647), ((-2147483648), 2147483647)], [], 65, [], [], []))])
def zn_X3_measure : List zf_X := [(0, 1, .aload_n 0, []), (1, 1, .iload_n 1, []), (2, 3, .invokevirtual 37, [0]), (5, 3, .ifCond .ne 5, []), (8, 1, .iconst (-1), []), (9, 1, .ireturn, []), (10, 1, .iload_n 2, []), (11, 33, .tableswitch 80 0 4 #[33, 40, 47, 64, 74], []), (44, 1, .aload_n 0, []), (45, 3, .getfield 9, []), (48, 1, .iload_n 1, []), (49, 1, .iaload, []), (50, 1, .ireturn, []), (51, 1, .aload_n 0, []), (52, 3, .getfield 15, []), (55, 1, .iload_n 1, []), (56, 1, .iaload, []), (57, 1, .ireturn, []), (58, 1, .aload_n 0, []), (59, 3, .getfield 18, []), (62, 1, .iload_n 1, []), (63, 1, .iaload, []), (64, 1, .aload_n 0, []), (65, 3, .getfield 21, []), (68, 1, .iload_n 1, []), (69, 1, .iaload, []), (70, 1, .ior, []), (71, 3, .invokestatic 41, [1]), (74, 1, .ireturn, []), (75, 1, .aload_n 0, []), (76, 3, .getfield 18, []), (79, 1, .iload_n 1, []), (80, 1, .iaload, []), (81, 3, .invokestatic 41, [1]), (84, 1, .ireturn, []), (85, 1, .aload_n 0, []), (86, 1, .iload_n 1, []), (87, 3, .invokevirtual 47, [2]), (90, 1, .ireturn, []), (91, 1, .aload_n 0, []), (92, 3, .getfield 24, []), (95, 1, .iload_n 1, []), (96, 1, .iaload, []), (97, 1, .ireturn, [])]
def zu_X3_measure : List zf_U := []
theorem zw_671 : (Jvm.Cond.code yJ6_bitCount_0f7a4 cJ6_bitCount_0f7a4 1 (some .int)) ∈ lw_g := lw_t3 rfl (List.mem_of_getElem? (i := 97) rfl)
theorem zw_669 : (Jvm.Cond.methodLink RX3 41 yJ6_bitCount_0f7a4) ∈ lw_g := lw_t3 rfl (List.mem_of_getElem? (i := 95) rfl)
theorem zw_670 : (Jvm.Cond.static yJ6_bitCount_0f7a4) ∈ lw_g := lw_t3 rfl (List.mem_of_getElem? (i := 96) rfl)
theorem zw_115 : (Jvm.Cond.initialized RJ6) ∈ lw_g := lw_t1 rfl (List.mem_of_getElem? (i := 21) rfl)
theorem zw_678 : (Jvm.Cond.code yX3_reach cX3_reach 3 (some .int)) ∈ lw_g := lw_t3 rfl (List.mem_of_getElem? (i := 104) rfl)
theorem zw_675 : (Jvm.Cond.methodLink RX3 47 yX3_reach) ∈ lw_g := lw_t3 rfl (List.mem_of_getElem? (i := 101) rfl)
theorem zw_677 : (Jvm.Cond.instanceMethod yX3_reach) ∈ lw_g := lw_t3 rfl (List.mem_of_getElem? (i := 103) rfl)
theorem zw_7 : (Jvm.Cond.selects RX3 yX3_reach yX3_reach) ∈ lw_g := lw_s rfl (List.mem_of_getElem? (i := 7) rfl)
set_option maxRecDepth 100000 in
set_option maxHeartbeats 4000000 in
theorem kc_X3_measure (l : Launch) (D : va_G) (k : Nat → ClassId) (B0 : Nat) (ad : Nat → Nat) (al sw : Nat) : zf_Con l yX3_measure (zw yX3_measure cX3_measure 3 (some .int)) ({ frames := 1, cells := 0, slots := 0, locals := 22 }) D k (zEx B0 ad al sw) zGT 37 zm_X3_measure := by
  have hEx := zEx_ok B0 ad al sw
  refine zf_mk (cc := cX3_measure) (nL := 3) (ret := (some .int)) (Ms := [zm_X3_has, zm_J6_bitCount_0f7a4, zm_X3_reach]) (fg := [(9, 1, 1, .inl (0, 0)), (15, 1, 2, .inl (0, 0)), (18, 1, 3, .inl (0, 0)), (21, 1, 4, .inl (0, 0)), (24, 1, 5, .inl (0, 0))]) (fp := []) (ins := zn_X3_measure) (cuts := zu_X3_measure) (fuel := 3000) (by decide) rfl hEx (by decide +kernel) (by decide +kernel) (by decide +kernel) (by decide +kernel) ?_
  intro p e s m args below meth c Q Sg w0 A θ0 S hK hE hAB hA hone hsing
  refine ⟨?_, ?_, ?_⟩
  · exact zf_ac ((fun H locs ws a q0 fs v rest pc ls hP he hv hdg kk => va_get (D := D) (ci := 1) (C := RX3) (T := TX3) (N := 6) (own := RX3) S.1 S.2.1 S.2.2.2.2 (zg_in inW_X3) S.2.2.2.1 hK hP q0 he rfl 1 (by decide) (S.2.2.2.2 (.fieldLink RX3 9 "RungMoney$Ladders" "owners" "[I") (List.mem_cons_of_mem _ zw_231)) (fun _ h9 => h9) hv hdg kk)) (zf_ac ((fun H locs ws a q0 fs v rest pc ls hP he hv hdg kk => va_get (D := D) (ci := 1) (C := RX3) (T := TX3) (N := 6) (own := RX3) S.1 S.2.1 S.2.2.2.2 (zg_in inW_X3) S.2.2.2.1 hK hP q0 he rfl 2 (by decide) (S.2.2.2.2 (.fieldLink RX3 15 "RungMoney$Ladders" "lengths" "[I") (List.mem_cons_of_mem _ zw_232)) (fun _ h9 => h9) hv hdg kk)) (zf_ac ((fun H locs ws a q0 fs v rest pc ls hP he hv hdg kk => va_get (D := D) (ci := 1) (C := RX3) (T := TX3) (N := 6) (own := RX3) S.1 S.2.1 S.2.2.2.2 (zg_in inW_X3) S.2.2.2.1 hK hP q0 he rfl 3 (by decide) (S.2.2.2.2 (.fieldLink RX3 18 "RungMoney$Ladders" "sounds" "[I") (List.mem_cons_of_mem _ zw_233)) (fun _ h9 => h9) hv hdg kk)) (zf_ac ((fun H locs ws a q0 fs v rest pc ls hP he hv hdg kk => va_get (D := D) (ci := 1) (C := RX3) (T := TX3) (N := 6) (own := RX3) S.1 S.2.1 S.2.2.2.2 (zg_in inW_X3) S.2.2.2.1 hK hP q0 he rfl 4 (by decide) (S.2.2.2.2 (.fieldLink RX3 21 "RungMoney$Ladders" "paints" "[I") (List.mem_cons_of_mem _ zw_234)) (fun _ h9 => h9) hv hdg kk)) (zf_ac ((fun H locs ws a q0 fs v rest pc ls hP he hv hdg kk => va_get (D := D) (ci := 1) (C := RX3) (T := TX3) (N := 6) (own := RX3) S.1 S.2.1 S.2.2.2.2 (zg_in inW_X3) S.2.2.2.1 hK hP q0 he rfl 5 (by decide) (S.2.2.2.2 (.fieldLink RX3 24 "RungMoney$Ladders" "hands" "[I") (List.mem_cons_of_mem _ zw_235)) (fun _ h9 => h9) hv hdg kk)) zf_an))))
  · exact zf_an
  · exact zf_crl (xs := [(.invokevirtual 37, 3, 0), (.invokestatic 41, 3, 1), (.invokevirtual 47, 3, 2)]) (by decide +kernel) (zf_ac (zf_crV S hEx hE hAB hA hK hone hsing (kc_X3_has l D k B0 ad al sw) (cwV 1 S.2.2.2.2 (zg_V zw_645 zw_646 zw_647 zw_100 zw_648) rfl rfl rfl (by decide +kernel) ⟨(Nat.le_of_ble_eq_true rfl), (Nat.le_of_ble_eq_true rfl)⟩) ⟨(Nat.le_of_ble_eq_true rfl), (Nat.le_of_ble_eq_true rfl)⟩ 1 rfl rfl (ar := [.inl ([(0, 1)], 0)]) rfl rfl (by decide +kernel)) (zf_ac (zf_crS S hEx hE hAB hA hK hone hsing (kc_J6_bitCount_0f7a4 l D k B0 ad al sw) (va_cwS 1 S.2.2.2.2 (zg_S zw_669 zw_670 zw_115 zw_671) rfl rfl rfl (by decide +kernel) ⟨(Nat.le_of_ble_eq_true rfl), (Nat.le_of_ble_eq_true rfl)⟩) ⟨(Nat.le_of_ble_eq_true rfl), (Nat.le_of_ble_eq_true rfl)⟩ rfl) (zf_ac (zf_crV S hEx hE hAB hA hK hone hsing (kc_X3_reach l D k B0 ad al sw) (cwV 1 S.2.2.2.2 (zg_V zw_675 zw_677 zw_7 zw_100 zw_678) rfl rfl rfl (by decide +kernel) ⟨(Nat.le_of_ble_eq_true rfl), (Nat.le_of_ble_eq_true rfl)⟩) ⟨(Nat.le_of_ble_eq_true rfl), (Nat.le_of_ble_eq_true rfl)⟩ 1 rfl rfl (ar := [.inl ([(0, 1)], 0)]) rfl rfl (by decide +kernel)) zf_an)))
def zm_X3_kind : zf_M := (([((-2147483648), 2147483647), ((-2147483648), 2147483647)], [], 65, [], [.inl ([(1, 1)], 0), .inl ([(0, 1)], 0), .inr (some (66, 64))], []), [], [(some (.inl ([(2, 1)], 0)), ([((-2147483648), 2147483647), ((-2147483648), 2147483647), ((-1), 2)], [], 65, [], [], []))])
def zn_X3_kind : List zf_X := [(0, 1, .aload_n 0, []), (1, 1, .iload_n 1, []), (2, 3, .invokevirtual 37, [0]), (5, 3, .ifCond .eq 17, []), (8, 1, .iload_n 2, []), (9, 3, .ifCond .lt 13, []), (12, 1, .iload_n 2, []), (13, 1, .aload_n 0, []), (14, 3, .getfield 15, []), (17, 1, .iload_n 1, []), (18, 1, .iaload, []), (19, 3, .if_icmp .lt 5, []), (22, 1, .iconst (-1), []), (23, 1, .ireturn, []), (24, 1, .aload_n 0, []), (25, 3, .getfield 18, []), (28, 1, .iload_n 1, []), (29, 1, .iaload, []), (30, 1, .iload_n 2, []), (31, 1, .iushr, []), (32, 1, .iconst 1, []), (33, 1, .iand, []), (34, 1, .iconst 1, []), (35, 3, .if_icmp .ne 5, []), (38, 1, .iconst 0, []), (39, 1, .ireturn, []), (40, 1, .aload_n 0, []), (41, 3, .getfield 21, []), (44, 1, .iload_n 1, []), (45, 1, .iaload, []), (46, 1, .iload_n 2, []), (47, 1, .iushr, []), (48, 1, .iconst 1, []), (49, 1, .iand, []), (50, 1, .iconst 1, []), (51, 3, .if_icmp .ne 7, []), (54, 1, .iconst 2, []), (55, 3, .goto 4, []), (58, 1, .iconst 1, []), (59, 1, .ireturn, [])]
def zu_X3_kind : List zf_U := []
set_option maxRecDepth 100000 in
set_option maxHeartbeats 4000000 in
theorem kc_X3_kind (l : Launch) (D : va_G) (k : Nat → ClassId) (B0 : Nat) (ad : Nat → Nat) (al sw : Nat) : zf_Con l yX3_kind (zw yX3_kind cX3_kind 3 (some .int)) ({ frames := 1, cells := 0, slots := 0, locals := 21 }) D k (zEx B0 ad al sw) zGT 37 zm_X3_kind := by
  have hEx := zEx_ok B0 ad al sw
  refine zf_mk (cc := cX3_kind) (nL := 3) (ret := (some .int)) (Ms := [zm_X3_has]) (fg := [(15, 1, 2, .inl (0, 0)), (18, 1, 3, .inl (0, 0)), (21, 1, 4, .inl (0, 0))]) (fp := []) (ins := zn_X3_kind) (cuts := zu_X3_kind) (fuel := 3000) (by decide) rfl hEx (by decide +kernel) (by decide +kernel) (by decide +kernel) (by decide +kernel) ?_
  intro p e s m args below meth c Q Sg w0 A θ0 S hK hE hAB hA hone hsing
  refine ⟨?_, ?_, ?_⟩
  · exact zf_ac ((fun H locs ws a q0 fs v rest pc ls hP he hv hdg kk => va_get (D := D) (ci := 1) (C := RX3) (T := TX3) (N := 6) (own := RX3) S.1 S.2.1 S.2.2.2.2 (zg_in inW_X3) S.2.2.2.1 hK hP q0 he rfl 2 (by decide) (S.2.2.2.2 (.fieldLink RX3 15 "RungMoney$Ladders" "lengths" "[I") (List.mem_cons_of_mem _ zw_232)) (fun _ h9 => h9) hv hdg kk)) (zf_ac ((fun H locs ws a q0 fs v rest pc ls hP he hv hdg kk => va_get (D := D) (ci := 1) (C := RX3) (T := TX3) (N := 6) (own := RX3) S.1 S.2.1 S.2.2.2.2 (zg_in inW_X3) S.2.2.2.1 hK hP q0 he rfl 3 (by decide) (S.2.2.2.2 (.fieldLink RX3 18 "RungMoney$Ladders" "sounds" "[I") (List.mem_cons_of_mem _ zw_233)) (fun _ h9 => h9) hv hdg kk)) (zf_ac ((fun H locs ws a q0 fs v rest pc ls hP he hv hdg kk => va_get (D := D) (ci := 1) (C := RX3) (T := TX3) (N := 6) (own := RX3) S.1 S.2.1 S.2.2.2.2 (zg_in inW_X3) S.2.2.2.1 hK hP q0 he rfl 4 (by decide) (S.2.2.2.2 (.fieldLink RX3 21 "RungMoney$Ladders" "paints" "[I") (List.mem_cons_of_mem _ zw_234)) (fun _ h9 => h9) hv hdg kk)) zf_an))
  · exact zf_an
  · exact zf_crl (xs := [(.invokevirtual 37, 3, 0)]) (by decide +kernel) (zf_ac (zf_crV S hEx hE hAB hA hK hone hsing (kc_X3_has l D k B0 ad al sw) (cwV 1 S.2.2.2.2 (zg_V zw_645 zw_646 zw_647 zw_100 zw_648) rfl rfl rfl (by decide +kernel) ⟨(Nat.le_of_ble_eq_true rfl), (Nat.le_of_ble_eq_true rfl)⟩) ⟨(Nat.le_of_ble_eq_true rfl), (Nat.le_of_ble_eq_true rfl)⟩ 1 rfl rfl (ar := [.inl ([(0, 1)], 0)]) rfl rfl (by decide +kernel)) zf_an)
def zm_X3_bears : zf_M := (([((-2147483648), 2147483647)], [], 65, [], [.inl ([(0, 1)], 0), .inr (some (66, 64))], []), [], [(some (.inl ([], 0)), ([(0, 15)], [], 65, [], [], [])), (some (.inl ([], 1)), ([(0, 15)], [], 65, [], [], [])), (some (.inl ([], 0)), ([(0, 2147483647)], [], 65, [], [], [])), (some (.inl ([], 0)), ([((-2147483648), (-1))], [], 65, [], [], []))])
def zn_X3_bears : List zf_X := [(0, 1, .aload_n 0, []), (1, 1, .iload_n 1, []), (2, 3, .invokevirtual 50, [0]), (5, 3, .ifCond .eq 22, []), (8, 1, .aload_n 0, []), (9, 1, .iload_n 1, []), (10, 1, .iconst 3, []), (11, 3, .invokevirtual 53, [1]), (14, 1, .aload_n 0, []), (15, 3, .getfield 15, []), (18, 1, .iload_n 1, []), (19, 1, .iaload, []), (20, 3, .if_icmp .ne 7, []), (23, 1, .iconst 1, []), (24, 3, .goto 4, []), (27, 1, .iconst 0, []), (28, 1, .ireturn, [])]
def zu_X3_bears : List zf_U := []
theorem zw_773 : (Jvm.Cond.code yX3_isThere cX3_isThere 2 (some .boolean)) ∈ lw_g := lw_t3 rfl (List.mem_of_getElem? (i := 199) rfl)
theorem zw_958 : (Jvm.Cond.methodLink RX3 50 yX3_isThere) ∈ lw_g := lw_t4 rfl (List.mem_of_getElem? (i := 144) rfl)
theorem zw_771 : (Jvm.Cond.instanceMethod yX3_isThere) ∈ lw_g := lw_t3 rfl (List.mem_of_getElem? (i := 197) rfl)
theorem zw_772 : (Jvm.Cond.selects RX3 yX3_isThere yX3_isThere) ∈ lw_g := lw_t3 rfl (List.mem_of_getElem? (i := 198) rfl)
theorem zw_668 : (Jvm.Cond.code yX3_measure cX3_measure 3 (some .int)) ∈ lw_g := lw_t3 rfl (List.mem_of_getElem? (i := 94) rfl)
theorem zw_665 : (Jvm.Cond.methodLink RX3 53 yX3_measure) ∈ lw_g := lw_t3 rfl (List.mem_of_getElem? (i := 91) rfl)
theorem zw_666 : (Jvm.Cond.instanceMethod yX3_measure) ∈ lw_g := lw_t3 rfl (List.mem_of_getElem? (i := 92) rfl)
theorem zw_667 : (Jvm.Cond.selects RX3 yX3_measure yX3_measure) ∈ lw_g := lw_t3 rfl (List.mem_of_getElem? (i := 93) rfl)
set_option maxRecDepth 100000 in
set_option maxHeartbeats 4000000 in
theorem kc_X3_bears (l : Launch) (D : va_G) (k : Nat → ClassId) (B0 : Nat) (ad : Nat → Nat) (al sw : Nat) : zf_Con l yX3_bears (zw yX3_bears cX3_bears 2 (some .boolean)) ({ frames := 2, cells := 0, slots := 0, locals := 44 }) D k (zEx B0 ad al sw) zGT 37 zm_X3_bears := by
  have hEx := zEx_ok B0 ad al sw
  refine zf_mk (cc := cX3_bears) (nL := 2) (ret := (some .boolean)) (Ms := [zm_X3_isThere, zm_X3_measure]) (fg := [(15, 1, 2, .inl (0, 0))]) (fp := []) (ins := zn_X3_bears) (cuts := zu_X3_bears) (fuel := 3000) (by decide) rfl hEx (by decide +kernel) (by decide +kernel) (by decide +kernel) (by decide +kernel) ?_
  intro p e s m args below meth c Q Sg w0 A θ0 S hK hE hAB hA hone hsing
  refine ⟨?_, ?_, ?_⟩
  · exact zf_ac ((fun H locs ws a q0 fs v rest pc ls hP he hv hdg kk => va_get (D := D) (ci := 1) (C := RX3) (T := TX3) (N := 6) (own := RX3) S.1 S.2.1 S.2.2.2.2 (zg_in inW_X3) S.2.2.2.1 hK hP q0 he rfl 2 (by decide) (S.2.2.2.2 (.fieldLink RX3 15 "RungMoney$Ladders" "lengths" "[I") (List.mem_cons_of_mem _ zw_232)) (fun _ h9 => h9) hv hdg kk)) zf_an
  · exact zf_an
  · exact zf_crl (xs := [(.invokevirtual 50, 3, 0), (.invokevirtual 53, 3, 1)]) (by decide +kernel) (zf_ac (zf_crV S hEx hE hAB hA hK hone hsing (kc_X3_isThere l D k B0 ad al sw) (cwV 1 S.2.2.2.2 (zg_V zw_958 zw_771 zw_772 zw_100 zw_773) rfl rfl rfl (by decide +kernel) ⟨(Nat.le_of_ble_eq_true rfl), (Nat.le_of_ble_eq_true rfl)⟩) ⟨(Nat.le_of_ble_eq_true rfl), (Nat.le_of_ble_eq_true rfl)⟩ 1 rfl rfl (ar := [.inl ([(0, 1)], 0)]) rfl rfl (by decide +kernel)) (zf_ac (zf_crV S hEx hE hAB hA hK hone hsing (kc_X3_measure l D k B0 ad al sw) (cwV 2 S.2.2.2.2 (zg_V zw_665 zw_666 zw_667 zw_100 zw_668) rfl rfl rfl (by decide +kernel) ⟨(Nat.le_of_ble_eq_true rfl), (Nat.le_of_ble_eq_true rfl)⟩) ⟨(Nat.le_of_ble_eq_true rfl), (Nat.le_of_ble_eq_true rfl)⟩ 1 rfl rfl (ar := [.inl ([(1, 1)], 0), .inl ([(0, 1)], 0)]) rfl rfl (by decide +kernel)) zf_an))
def zm_X3_hasPaint : zf_M := (([((-2147483648), 2147483647)], [], 65, [], [.inl ([(0, 1)], 0), .inr (some (66, 64))], []), [], [(some (.inl ([], 0)), ([((-2147483648), (-1))], [], 65, [], [], [])), (some (.inl ([], 0)), ([(0, 2147483647)], [], 65, [], [], [])), (some (.inl ([], 1)), ([(0, 15)], [], 65, [], [], [])), (some (.inl ([], 0)), ([(0, 15)], [], 65, [], [], []))])
def zn_X3_hasPaint : List zf_X := [(0, 1, .aload_n 0, []), (1, 1, .iload_n 1, []), (2, 3, .invokevirtual 37, [0]), (5, 3, .ifCond .eq 16, []), (8, 1, .aload_n 0, []), (9, 3, .getfield 21, []), (12, 1, .iload_n 1, []), (13, 1, .iaload, []), (14, 3, .ifCond .eq 7, []), (17, 1, .iconst 1, []), (18, 3, .goto 4, []), (21, 1, .iconst 0, []), (22, 1, .ireturn, [])]
def zu_X3_hasPaint : List zf_U := []
set_option maxRecDepth 100000 in
set_option maxHeartbeats 4000000 in
theorem kc_X3_hasPaint (l : Launch) (D : va_G) (k : Nat → ClassId) (B0 : Nat) (ad : Nat → Nat) (al sw : Nat) : zf_Con l yX3_hasPaint (zw yX3_hasPaint cX3_hasPaint 2 (some .boolean)) ({ frames := 1, cells := 0, slots := 0, locals := 21 }) D k (zEx B0 ad al sw) zGT 37 zm_X3_hasPaint := by
  have hEx := zEx_ok B0 ad al sw
  refine zf_mk (cc := cX3_hasPaint) (nL := 2) (ret := (some .boolean)) (Ms := [zm_X3_has]) (fg := [(21, 1, 4, .inl (0, 0))]) (fp := []) (ins := zn_X3_hasPaint) (cuts := zu_X3_hasPaint) (fuel := 3000) (by decide) rfl hEx (by decide +kernel) (by decide +kernel) (by decide +kernel) (by decide +kernel) ?_
  intro p e s m args below meth c Q Sg w0 A θ0 S hK hE hAB hA hone hsing
  refine ⟨?_, ?_, ?_⟩
  · exact zf_ac ((fun H locs ws a q0 fs v rest pc ls hP he hv hdg kk => va_get (D := D) (ci := 1) (C := RX3) (T := TX3) (N := 6) (own := RX3) S.1 S.2.1 S.2.2.2.2 (zg_in inW_X3) S.2.2.2.1 hK hP q0 he rfl 4 (by decide) (S.2.2.2.2 (.fieldLink RX3 21 "RungMoney$Ladders" "paints" "[I") (List.mem_cons_of_mem _ zw_234)) (fun _ h9 => h9) hv hdg kk)) zf_an
  · exact zf_an
  · exact zf_crl (xs := [(.invokevirtual 37, 3, 0)]) (by decide +kernel) (zf_ac (zf_crV S hEx hE hAB hA hK hone hsing (kc_X3_has l D k B0 ad al sw) (cwV 1 S.2.2.2.2 (zg_V zw_645 zw_646 zw_647 zw_100 zw_648) rfl rfl rfl (by decide +kernel) ⟨(Nat.le_of_ble_eq_true rfl), (Nat.le_of_ble_eq_true rfl)⟩) ⟨(Nat.le_of_ble_eq_true rfl), (Nat.le_of_ble_eq_true rfl)⟩ 1 rfl rfl (ar := [.inl ([(0, 1)], 0)]) rfl rfl (by decide +kernel)) zf_an)
def zm_X3_sum : zf_M := (([((-2147483648), 2147483647)], [], 65, [], [.inl ([(0, 1)], 0), .inr (some (66, 64))], []), [], [(some (.inl ([(1, 1)], 0)), ([((-2147483648), 2147483647), ((-2147483648), 2147483647)], [], 65, [], [], []))])
def zn_X3_sum : List zf_X := [(0, 1, .iconst 0, []), (1, 1, .istore_n 2, []), (2, 1, .iconst 0, []), (3, 1, .istore_n 3, []), (4, 1, .iload_n 3, []), (5, 1, .aload_n 0, []), (6, 3, .getfield 27, []), (9, 3, .if_icmp .ge 18, []), (12, 1, .iload_n 2, []), (13, 1, .aload_n 0, []), (14, 1, .iload_n 3, []), (15, 1, .iload_n 1, []), (16, 3, .invokevirtual 53, [0]), (19, 1, .iadd, []), (20, 1, .istore_n 2, []), (21, 3, .iinc 3 1, []), (24, 3, .goto (-20), []), (27, 1, .iload_n 2, []), (28, 1, .ireturn, [])]
def zu_X3_sum : List zf_U := [(4, ([((-2147483648), 2147483647), ((-2147483648), 2147483647), (0, 16)], [], 65, [(0, .inr (some (66, 64))), (1, .inl ([(0, 1)], 0)), (2, .inl ([(1, 1)], 0)), (3, .inl ([(2, 1)], 0))], [], []), ([(2, (-1))], 17), 0)]
set_option maxRecDepth 100000 in
set_option maxHeartbeats 4000000 in
theorem kc_X3_sum (l : Launch) (D : va_G) (k : Nat → ClassId) (B0 : Nat) (ad : Nat → Nat) (al sw : Nat) : zf_Con l yX3_sum (zw yX3_sum cX3_sum 4 (some .int)) ({ frames := 2, cells := 0, slots := 0, locals := 44 }) D k (zEx B0 ad al sw) zGT 37 zm_X3_sum := by
  have hEx := zEx_ok B0 ad al sw
  refine zf_mk (cc := cX3_sum) (nL := 4) (ret := (some .int)) (Ms := [zm_X3_measure]) (fg := [(27, 1, 0, .inl (0, 0))]) (fp := []) (ins := zn_X3_sum) (cuts := zu_X3_sum) (fuel := 3000) (by decide) rfl hEx (by decide +kernel) (by decide +kernel) (by decide +kernel) (by decide +kernel) ?_
  intro p e s m args below meth c Q Sg w0 A θ0 S hK hE hAB hA hone hsing
  refine ⟨?_, ?_, ?_⟩
  · exact zf_ac ((fun H locs ws a q0 fs v rest pc ls hP he hv hdg kk => va_get (D := D) (ci := 1) (C := RX3) (T := TX3) (N := 6) (own := RX3) S.1 S.2.1 S.2.2.2.2 (zg_in inW_X3) S.2.2.2.1 hK hP q0 he rfl 0 (by decide) (S.2.2.2.2 (.fieldLink RX3 27 "RungMoney$Ladders" "size" "I") (List.mem_cons_of_mem _ zw_225)) (fun _ h9 => h9) hv hdg kk)) zf_an
  · exact zf_an
  · exact zf_crl (xs := [(.invokevirtual 53, 3, 0)]) (by decide +kernel) (zf_ac (zf_crV S hEx hE hAB hA hK hone hsing (kc_X3_measure l D k B0 ad al sw) (cwV 2 S.2.2.2.2 (zg_V zw_665 zw_666 zw_667 zw_100 zw_668) rfl rfl rfl (by decide +kernel) ⟨(Nat.le_of_ble_eq_true rfl), (Nat.le_of_ble_eq_true rfl)⟩) ⟨(Nat.le_of_ble_eq_true rfl), (Nat.le_of_ble_eq_true rfl)⟩ 1 rfl rfl (ar := [.inl ([(1, 1)], 0), .inl ([(0, 1)], 0)]) rfl rfl (by decide +kernel)) zf_an)
def zm_X3_sumOf : zf_M := (([((-2147483648), 2147483647), ((-2147483648), 2147483647)], [], 65, [], [.inl ([(1, 1)], 0), .inl ([(0, 1)], 0), .inr (some (66, 64))], []), [], [(some (.inl ([(2, 1)], 0)), ([((-2147483648), 2147483647), ((-2147483648), 2147483647), ((-2147483648), 2147483647)], [], 65, [], [], []))])
def zn_X3_sumOf : List zf_X := [(0, 1, .iconst 0, []), (1, 1, .istore_n 3, []), (2, 1, .iconst 0, []), (3, 2, .istore 4, []), (5, 2, .iload 4, []), (7, 1, .aload_n 0, []), (8, 3, .getfield 27, []), (11, 3, .if_icmp .ge 30, []), (14, 1, .aload_n 0, []), (15, 3, .getfield 9, []), (18, 2, .iload 4, []), (20, 1, .iaload, []), (21, 1, .iload_n 1, []), (22, 3, .if_icmp .ne 13, []), (25, 1, .iload_n 3, []), (26, 1, .aload_n 0, []), (27, 2, .iload 4, []), (29, 1, .iload_n 2, []), (30, 3, .invokevirtual 53, [0]), (33, 1, .iadd, []), (34, 1, .istore_n 3, []), (35, 3, .iinc 4 1, []), (38, 3, .goto (-33), []), (41, 1, .iload_n 3, []), (42, 1, .ireturn, [])]
def zu_X3_sumOf : List zf_U := [(5, ([((-2147483648), 2147483647), ((-2147483648), 2147483647), ((-2147483648), 2147483647), (0, 16)], [], 65, [(0, .inr (some (66, 64))), (1, .inl ([(0, 1)], 0)), (2, .inl ([(1, 1)], 0)), (3, .inl ([(2, 1)], 0)), (4, .inl ([(3, 1)], 0))], [], []), ([(3, (-1))], 17), 0)]
set_option maxRecDepth 100000 in
set_option maxHeartbeats 4000000 in
theorem kc_X3_sumOf (l : Launch) (D : va_G) (k : Nat → ClassId) (B0 : Nat) (ad : Nat → Nat) (al sw : Nat) : zf_Con l yX3_sumOf (zw yX3_sumOf cX3_sumOf 5 (some .int)) ({ frames := 2, cells := 0, slots := 0, locals := 44 }) D k (zEx B0 ad al sw) zGT 37 zm_X3_sumOf := by
  have hEx := zEx_ok B0 ad al sw
  refine zf_mk (cc := cX3_sumOf) (nL := 5) (ret := (some .int)) (Ms := [zm_X3_measure]) (fg := [(9, 1, 1, .inl (0, 0)), (27, 1, 0, .inl (0, 0))]) (fp := []) (ins := zn_X3_sumOf) (cuts := zu_X3_sumOf) (fuel := 3000) (by decide) rfl hEx (by decide +kernel) (by decide +kernel) (by decide +kernel) (by decide +kernel) ?_
  intro p e s m args below meth c Q Sg w0 A θ0 S hK hE hAB hA hone hsing
  refine ⟨?_, ?_, ?_⟩
  · exact zf_ac ((fun H locs ws a q0 fs v rest pc ls hP he hv hdg kk => va_get (D := D) (ci := 1) (C := RX3) (T := TX3) (N := 6) (own := RX3) S.1 S.2.1 S.2.2.2.2 (zg_in inW_X3) S.2.2.2.1 hK hP q0 he rfl 1 (by decide) (S.2.2.2.2 (.fieldLink RX3 9 "RungMoney$Ladders" "owners" "[I") (List.mem_cons_of_mem _ zw_231)) (fun _ h9 => h9) hv hdg kk)) (zf_ac ((fun H locs ws a q0 fs v rest pc ls hP he hv hdg kk => va_get (D := D) (ci := 1) (C := RX3) (T := TX3) (N := 6) (own := RX3) S.1 S.2.1 S.2.2.2.2 (zg_in inW_X3) S.2.2.2.1 hK hP q0 he rfl 0 (by decide) (S.2.2.2.2 (.fieldLink RX3 27 "RungMoney$Ladders" "size" "I") (List.mem_cons_of_mem _ zw_225)) (fun _ h9 => h9) hv hdg kk)) zf_an)
  · exact zf_an
  · exact zf_crl (xs := [(.invokevirtual 53, 3, 0)]) (by decide +kernel) (zf_ac (zf_crV S hEx hE hAB hA hK hone hsing (kc_X3_measure l D k B0 ad al sw) (cwV 2 S.2.2.2.2 (zg_V zw_665 zw_666 zw_667 zw_100 zw_668) rfl rfl rfl (by decide +kernel) ⟨(Nat.le_of_ble_eq_true rfl), (Nat.le_of_ble_eq_true rfl)⟩) ⟨(Nat.le_of_ble_eq_true rfl), (Nat.le_of_ble_eq_true rfl)⟩ 1 rfl rfl (ar := [.inl ([(1, 1)], 0), .inl ([(0, 1)], 0)]) rfl rfl (by decide +kernel)) zf_an)
def zm_X3_highestOf : zf_M := (([((-2147483648), 2147483647)], [], 65, [], [.inl ([(0, 1)], 0), .inr (some (66, 64))], []), [], [(some (.inl ([(1, 1)], 0)), ([((-2147483648), 2147483647), (0, 2147483647)], [], 65, [], [], []))])
def zn_X3_highestOf : List zf_X := [(0, 1, .iconst 0, []), (1, 1, .istore_n 2, []), (2, 1, .iconst 0, []), (3, 1, .istore_n 3, []), (4, 1, .iload_n 3, []), (5, 1, .aload_n 0, []), (6, 3, .getfield 27, []), (9, 3, .if_icmp .ge 29, []), (12, 1, .aload_n 0, []), (13, 3, .getfield 9, []), (16, 1, .iload_n 3, []), (17, 1, .iaload, []), (18, 1, .iload_n 1, []), (19, 3, .if_icmp .ne 13, []), (22, 1, .iload_n 2, []), (23, 1, .aload_n 0, []), (24, 1, .iload_n 3, []), (25, 3, .invokevirtual 47, [0]), (28, 3, .invokestatic 57, [1]), (31, 1, .istore_n 2, []), (32, 3, .iinc 3 1, []), (35, 3, .goto (-31), []), (38, 1, .iload_n 2, []), (39, 1, .ireturn, [])]
def zu_X3_highestOf : List zf_U := [(4, ([((-2147483648), 2147483647), (0, 2147483647), (0, 16)], [], 65, [(0, .inr (some (66, 64))), (1, .inl ([(0, 1)], 0)), (2, .inl ([(1, 1)], 0)), (3, .inl ([(2, 1)], 0))], [], []), ([(2, (-1))], 17), 0)]
theorem zw_696 : (Jvm.Cond.methodLink RX3 57 Lib.Math.max.name) ∈ lw_g := lw_t3 rfl (List.mem_of_getElem? (i := 122) rfl)
set_option maxRecDepth 100000 in
set_option maxHeartbeats 4000000 in
theorem kc_X3_highestOf (l : Launch) (D : va_G) (k : Nat → ClassId) (B0 : Nat) (ad : Nat → Nat) (al sw : Nat) : zf_Con l yX3_highestOf (zw yX3_highestOf cX3_highestOf 4 (some .int)) ({ frames := 1, cells := 0, slots := 0, locals := 22 }) D k (zEx B0 ad al sw) zGT 37 zm_X3_highestOf := by
  have hEx := zEx_ok B0 ad al sw
  refine zf_mk (cc := cX3_highestOf) (nL := 4) (ret := (some .int)) (Ms := [zm_X3_reach, zf_mMax]) (fg := [(9, 1, 1, .inl (0, 0)), (27, 1, 0, .inl (0, 0))]) (fp := []) (ins := zn_X3_highestOf) (cuts := zu_X3_highestOf) (fuel := 3000) (by decide) rfl hEx (by decide +kernel) (by decide +kernel) (by decide +kernel) (by decide +kernel) ?_
  intro p e s m args below meth c Q Sg w0 A θ0 S hK hE hAB hA hone hsing
  refine ⟨?_, ?_, ?_⟩
  · exact zf_ac ((fun H locs ws a q0 fs v rest pc ls hP he hv hdg kk => va_get (D := D) (ci := 1) (C := RX3) (T := TX3) (N := 6) (own := RX3) S.1 S.2.1 S.2.2.2.2 (zg_in inW_X3) S.2.2.2.1 hK hP q0 he rfl 1 (by decide) (S.2.2.2.2 (.fieldLink RX3 9 "RungMoney$Ladders" "owners" "[I") (List.mem_cons_of_mem _ zw_231)) (fun _ h9 => h9) hv hdg kk)) (zf_ac ((fun H locs ws a q0 fs v rest pc ls hP he hv hdg kk => va_get (D := D) (ci := 1) (C := RX3) (T := TX3) (N := 6) (own := RX3) S.1 S.2.1 S.2.2.2.2 (zg_in inW_X3) S.2.2.2.1 hK hP q0 he rfl 0 (by decide) (S.2.2.2.2 (.fieldLink RX3 27 "RungMoney$Ladders" "size" "I") (List.mem_cons_of_mem _ zw_225)) (fun _ h9 => h9) hv hdg kk)) zf_an)
  · exact zf_an
  · exact zf_crl (xs := [(.invokevirtual 47, 3, 0), (.invokestatic 57, 3, 1)]) (by decide +kernel) (zf_ac (zf_crV S hEx hE hAB hA hK hone hsing (kc_X3_reach l D k B0 ad al sw) (cwV 1 S.2.2.2.2 (zg_V zw_675 zw_677 zw_7 zw_100 zw_678) rfl rfl rfl (by decide +kernel) ⟨(Nat.le_of_ble_eq_true rfl), (Nat.le_of_ble_eq_true rfl)⟩) ⟨(Nat.le_of_ble_eq_true rfl), (Nat.le_of_ble_eq_true rfl)⟩ 1 rfl rfl (ar := [.inl ([(0, 1)], 0)]) rfl rfl (by decide +kernel)) (zf_ac (zf_crmax (own := RX3) S.1 S.2.1 S.2.2.1 S.2.2.2.1 (S.2.2.2.2 (.methodLink RX3 57 Lib.Math.max.name) (List.mem_cons_of_mem _ zw_696)) (S.2.2.2.2 (.static Lib.Math.max.name) (List.mem_cons_of_mem _ zw_697)) (S.2.2.2.2 (.initialized "java/lang/Math") (List.mem_cons_of_mem _ zw_116)) (S.2.2.2.2 (.code Lib.Math.max.name Lib.Math.max.code 2 (some .int)) (List.mem_cons_of_mem _ zw_698)) (Nat.le_of_ble_eq_true rfl) (Nat.le_of_ble_eq_true rfl) (Nat.le_of_ble_eq_true rfl) (Nat.le_of_ble_eq_true rfl)) zf_an))
def zm_X3_bitsOf : zf_M := (([((-2147483648), 2147483647)], [], 65, [], [.inl ([(0, 1)], 0), .inr (some (66, 64))], []), [], [(some (.inl ([(1, 1)], 0)), ([((-2147483648), 2147483647), (0, 65535)], [], 65, [], [], []))])
def zn_X3_bitsOf : List zf_X := [(0, 1, .iconst 0, []), (1, 1, .istore_n 2, []), (2, 1, .iconst 0, []), (3, 1, .istore_n 3, []), (4, 1, .iload_n 3, []), (5, 1, .aload_n 0, []), (6, 3, .getfield 27, []), (9, 3, .if_icmp .ge 25, []), (12, 1, .aload_n 0, []), (13, 3, .getfield 9, []), (16, 1, .iload_n 3, []), (17, 1, .iaload, []), (18, 1, .iload_n 1, []), (19, 3, .if_icmp .ne 9, []), (22, 1, .iload_n 2, []), (23, 1, .iconst 1, []), (24, 1, .iload_n 3, []), (25, 1, .ishl, []), (26, 1, .ior, []), (27, 1, .istore_n 2, []), (28, 3, .iinc 3 1, []), (31, 3, .goto (-27), []), (34, 1, .iload_n 2, []), (35, 1, .ireturn, [])]
def zu_X3_bitsOf : List zf_U := [(4, ([((-2147483648), 2147483647), (0, 65535), (0, 16)], [], 65, [(0, .inr (some (66, 64))), (1, .inl ([(0, 1)], 0)), (2, .inl ([(1, 1)], 0)), (3, .inl ([(2, 1)], 0))], [], []), ([(2, (-1))], 17), 0)]
set_option maxRecDepth 100000 in
set_option maxHeartbeats 4000000 in
theorem kc_X3_bitsOf (l : Launch) (D : va_G) (k : Nat → ClassId) (B0 : Nat) (ad : Nat → Nat) (al sw : Nat) : zf_Con l yX3_bitsOf (zw yX3_bitsOf cX3_bitsOf 4 (some .int)) ({ frames := 0, cells := 0, slots := 0, locals := 0 }) D k (zEx B0 ad al sw) zGT 37 zm_X3_bitsOf := by
  have hEx := zEx_ok B0 ad al sw
  refine zf_mk (cc := cX3_bitsOf) (nL := 4) (ret := (some .int)) (Ms := []) (fg := [(9, 1, 1, .inl (0, 0)), (27, 1, 0, .inl (0, 0))]) (fp := []) (ins := zn_X3_bitsOf) (cuts := zu_X3_bitsOf) (fuel := 3000) (by decide) rfl hEx (by decide +kernel) (by decide +kernel) (by decide +kernel) (by decide +kernel) ?_
  intro p e s m args below meth c Q Sg w0 A θ0 S hK hE hAB hA hone hsing
  refine ⟨?_, ?_, ?_⟩
  · exact zf_ac ((fun H locs ws a q0 fs v rest pc ls hP he hv hdg kk => va_get (D := D) (ci := 1) (C := RX3) (T := TX3) (N := 6) (own := RX3) S.1 S.2.1 S.2.2.2.2 (zg_in inW_X3) S.2.2.2.1 hK hP q0 he rfl 1 (by decide) (S.2.2.2.2 (.fieldLink RX3 9 "RungMoney$Ladders" "owners" "[I") (List.mem_cons_of_mem _ zw_231)) (fun _ h9 => h9) hv hdg kk)) (zf_ac ((fun H locs ws a q0 fs v rest pc ls hP he hv hdg kk => va_get (D := D) (ci := 1) (C := RX3) (T := TX3) (N := 6) (own := RX3) S.1 S.2.1 S.2.2.2.2 (zg_in inW_X3) S.2.2.2.1 hK hP q0 he rfl 0 (by decide) (S.2.2.2.2 (.fieldLink RX3 27 "RungMoney$Ladders" "size" "I") (List.mem_cons_of_mem _ zw_225)) (fun _ h9 => h9) hv hdg kk)) zf_an)
  · exact zf_an
  · exact zf_crl (xs := []) (by decide +kernel) (zf_an)
def zm_X3_allBits : zf_M := (([], [], 65, [], [.inr (some (66, 64))], []), [], [(some (.inl ([(0, 1)], (-1))), ([(1, 65536)], [], 65, [], [], []))])
def zn_X3_allBits : List zf_X := [(0, 1, .iconst 1, []), (1, 1, .aload_n 0, []), (2, 3, .getfield 27, []), (5, 1, .ishl, []), (6, 1, .iconst 1, []), (7, 1, .isub, []), (8, 1, .ireturn, [])]
def zu_X3_allBits : List zf_U := []
set_option maxRecDepth 100000 in
set_option maxHeartbeats 4000000 in
theorem kc_X3_allBits (l : Launch) (D : va_G) (k : Nat → ClassId) (B0 : Nat) (ad : Nat → Nat) (al sw : Nat) : zf_Con l yX3_allBits (zw yX3_allBits cX3_allBits 1 (some .int)) ({ frames := 0, cells := 0, slots := 0, locals := 0 }) D k (zEx B0 ad al sw) zGT 37 zm_X3_allBits := by
  have hEx := zEx_ok B0 ad al sw
  refine zf_mk (cc := cX3_allBits) (nL := 1) (ret := (some .int)) (Ms := []) (fg := [(27, 1, 0, .inl (0, 0))]) (fp := []) (ins := zn_X3_allBits) (cuts := zu_X3_allBits) (fuel := 3000) (by decide) rfl hEx (by decide +kernel) (by decide +kernel) (by decide +kernel) (by decide +kernel) ?_
  intro p e s m args below meth c Q Sg w0 A θ0 S hK hE hAB hA hone hsing
  refine ⟨?_, ?_, ?_⟩
  · exact zf_ac ((fun H locs ws a q0 fs v rest pc ls hP he hv hdg kk => va_get (D := D) (ci := 1) (C := RX3) (T := TX3) (N := 6) (own := RX3) S.1 S.2.1 S.2.2.2.2 (zg_in inW_X3) S.2.2.2.1 hK hP q0 he rfl 0 (by decide) (S.2.2.2.2 (.fieldLink RX3 27 "RungMoney$Ladders" "size" "I") (List.mem_cons_of_mem _ zw_225)) (fun _ h9 => h9) hv hdg kk)) zf_an
  · exact zf_an
  · exact zf_crl (xs := []) (by decide +kernel) (zf_an)
def zm_X3_bitsThere : zf_M := (([], [], 65, [], [.inr (some (66, 64))], []), [], [(some (.inl ([(0, 1)], 0)), ([(0, 65535)], [], 65, [], [], []))])
def zn_X3_bitsThere : List zf_X := [(0, 1, .aload_n 0, []), (1, 3, .invokevirtual 62, [0]), (4, 1, .aload_n 0, []), (5, 1, .iconst (-1), []), (6, 3, .invokevirtual 66, [1]), (9, 1, .iconst (-1), []), (10, 1, .ixor, []), (11, 1, .iand, []), (12, 1, .ireturn, [])]
def zu_X3_bitsThere : List zf_U := []
theorem zw_715 : (Jvm.Cond.code yX3_allBits cX3_allBits 1 (some .int)) ∈ lw_g := lw_t3 rfl (List.mem_of_getElem? (i := 141) rfl)
theorem zw_712 : (Jvm.Cond.methodLink RX3 62 yX3_allBits) ∈ lw_g := lw_t3 rfl (List.mem_of_getElem? (i := 138) rfl)
theorem zw_713 : (Jvm.Cond.instanceMethod yX3_allBits) ∈ lw_g := lw_t3 rfl (List.mem_of_getElem? (i := 139) rfl)
theorem zw_714 : (Jvm.Cond.selects RX3 yX3_allBits yX3_allBits) ∈ lw_g := lw_t3 rfl (List.mem_of_getElem? (i := 140) rfl)
theorem zw_660 : (Jvm.Cond.code yX3_bitsOf cX3_bitsOf 4 (some .int)) ∈ lw_g := lw_t3 rfl (List.mem_of_getElem? (i := 86) rfl)
theorem zw_716 : (Jvm.Cond.methodLink RX3 66 yX3_bitsOf) ∈ lw_g := lw_t3 rfl (List.mem_of_getElem? (i := 142) rfl)
theorem zw_658 : (Jvm.Cond.instanceMethod yX3_bitsOf) ∈ lw_g := lw_t3 rfl (List.mem_of_getElem? (i := 84) rfl)
theorem zw_659 : (Jvm.Cond.selects RX3 yX3_bitsOf yX3_bitsOf) ∈ lw_g := lw_t3 rfl (List.mem_of_getElem? (i := 85) rfl)
set_option maxRecDepth 100000 in
set_option maxHeartbeats 4000000 in
theorem kc_X3_bitsThere (l : Launch) (D : va_G) (k : Nat → ClassId) (B0 : Nat) (ad : Nat → Nat) (al sw : Nat) : zf_Con l yX3_bitsThere (zw yX3_bitsThere cX3_bitsThere 1 (some .int)) ({ frames := 1, cells := 0, slots := 0, locals := 23 }) D k (zEx B0 ad al sw) zGT 37 zm_X3_bitsThere := by
  have hEx := zEx_ok B0 ad al sw
  refine zf_mk (cc := cX3_bitsThere) (nL := 1) (ret := (some .int)) (Ms := [zm_X3_allBits, zm_X3_bitsOf]) (fg := []) (fp := []) (ins := zn_X3_bitsThere) (cuts := zu_X3_bitsThere) (fuel := 3000) (by decide) rfl hEx (by decide +kernel) (by decide +kernel) (by decide +kernel) (by decide +kernel) ?_
  intro p e s m args below meth c Q Sg w0 A θ0 S hK hE hAB hA hone hsing
  refine ⟨?_, ?_, ?_⟩
  · exact zf_an
  · exact zf_an
  · exact zf_crl (xs := [(.invokevirtual 62, 3, 0), (.invokevirtual 66, 3, 1)]) (by decide +kernel) (zf_ac (zf_crV S hEx hE hAB hA hK hone hsing (kc_X3_allBits l D k B0 ad al sw) (cwV 0 S.2.2.2.2 (zg_V zw_712 zw_713 zw_714 zw_100 zw_715) rfl rfl rfl (by decide +kernel) ⟨(Nat.le_of_ble_eq_true rfl), (Nat.le_of_ble_eq_true rfl)⟩) ⟨(Nat.le_of_ble_eq_true rfl), (Nat.le_of_ble_eq_true rfl)⟩ 1 rfl rfl (ar := []) rfl rfl (by decide +kernel)) (zf_ac (zf_crV S hEx hE hAB hA hK hone hsing (kc_X3_bitsOf l D k B0 ad al sw) (cwV 1 S.2.2.2.2 (zg_V zw_716 zw_658 zw_659 zw_100 zw_660) rfl rfl rfl (by decide +kernel) ⟨(Nat.le_of_ble_eq_true rfl), (Nat.le_of_ble_eq_true rfl)⟩) ⟨(Nat.le_of_ble_eq_true rfl), (Nat.le_of_ble_eq_true rfl)⟩ 1 rfl rfl (ar := [.inl ([(0, 1)], 0)]) rfl rfl (by decide +kernel)) zf_an))
def zm_X3_bitsBearing : zf_M := (([], [], 65, [], [.inr (some (66, 64))], []), [], [(some (.inl ([(0, 1)], 0)), ([(0, 65535)], [], 65, [], [], []))])
def zn_X3_bitsBearing : List zf_X := [(0, 1, .iconst 0, []), (1, 1, .istore_n 1, []), (2, 1, .iconst 0, []), (3, 1, .istore_n 2, []), (4, 1, .iload_n 2, []), (5, 1, .aload_n 0, []), (6, 3, .getfield 27, []), (9, 3, .if_icmp .ge 23, []), (12, 1, .aload_n 0, []), (13, 1, .iload_n 2, []), (14, 3, .invokevirtual 69, [0]), (17, 3, .ifCond .eq 9, []), (20, 1, .iload_n 1, []), (21, 1, .iconst 1, []), (22, 1, .iload_n 2, []), (23, 1, .ishl, []), (24, 1, .ior, []), (25, 1, .istore_n 1, []), (26, 3, .iinc 2 1, []), (29, 3, .goto (-25), []), (32, 1, .iload_n 1, []), (33, 1, .ireturn, [])]
def zu_X3_bitsBearing : List zf_U := [(4, ([(0, 65535), (0, 16)], [], 65, [(0, .inr (some (66, 64))), (1, .inl ([(0, 1)], 0)), (2, .inl ([(1, 1)], 0))], [], []), ([(1, (-1))], 17), 0)]
theorem zw_957 : (Jvm.Cond.code yX3_bears cX3_bears 2 (some .boolean)) ∈ lw_g := lw_t4 rfl (List.mem_of_getElem? (i := 143) rfl)
theorem zw_954 : (Jvm.Cond.methodLink RX3 69 yX3_bears) ∈ lw_g := lw_t4 rfl (List.mem_of_getElem? (i := 140) rfl)
theorem zw_955 : (Jvm.Cond.instanceMethod yX3_bears) ∈ lw_g := lw_t4 rfl (List.mem_of_getElem? (i := 141) rfl)
theorem zw_956 : (Jvm.Cond.selects RX3 yX3_bears yX3_bears) ∈ lw_g := lw_t4 rfl (List.mem_of_getElem? (i := 142) rfl)
set_option maxRecDepth 100000 in
set_option maxHeartbeats 4000000 in
theorem kc_X3_bitsBearing (l : Launch) (D : va_G) (k : Nat → ClassId) (B0 : Nat) (ad : Nat → Nat) (al sw : Nat) : zf_Con l yX3_bitsBearing (zw yX3_bitsBearing cX3_bitsBearing 3 (some .int)) ({ frames := 3, cells := 0, slots := 0, locals := 65 }) D k (zEx B0 ad al sw) zGT 37 zm_X3_bitsBearing := by
  have hEx := zEx_ok B0 ad al sw
  refine zf_mk (cc := cX3_bitsBearing) (nL := 3) (ret := (some .int)) (Ms := [zm_X3_bears]) (fg := [(27, 1, 0, .inl (0, 0))]) (fp := []) (ins := zn_X3_bitsBearing) (cuts := zu_X3_bitsBearing) (fuel := 3000) (by decide) rfl hEx (by decide +kernel) (by decide +kernel) (by decide +kernel) (by decide +kernel) ?_
  intro p e s m args below meth c Q Sg w0 A θ0 S hK hE hAB hA hone hsing
  refine ⟨?_, ?_, ?_⟩
  · exact zf_ac ((fun H locs ws a q0 fs v rest pc ls hP he hv hdg kk => va_get (D := D) (ci := 1) (C := RX3) (T := TX3) (N := 6) (own := RX3) S.1 S.2.1 S.2.2.2.2 (zg_in inW_X3) S.2.2.2.1 hK hP q0 he rfl 0 (by decide) (S.2.2.2.2 (.fieldLink RX3 27 "RungMoney$Ladders" "size" "I") (List.mem_cons_of_mem _ zw_225)) (fun _ h9 => h9) hv hdg kk)) zf_an
  · exact zf_an
  · exact zf_crl (xs := [(.invokevirtual 69, 3, 0)]) (by decide +kernel) (zf_ac (zf_crV S hEx hE hAB hA hK hone hsing (kc_X3_bears l D k B0 ad al sw) (cwV 1 S.2.2.2.2 (zg_V zw_954 zw_955 zw_956 zw_100 zw_957) rfl rfl rfl (by decide +kernel) ⟨(Nat.le_of_ble_eq_true rfl), (Nat.le_of_ble_eq_true rfl)⟩) ⟨(Nat.le_of_ble_eq_true rfl), (Nat.le_of_ble_eq_true rfl)⟩ 1 rfl rfl (ar := [.inl ([(0, 1)], 0)]) rfl rfl (by decide +kernel)) zf_an)
def zm_X3_fewestFor : zf_M := (([((-2147483648), 2147483647)], [], 65, [], [.inl ([(0, 1)], 0), .inr (some (66, 64))], []), [], [(some (.inl ([], (-1))), ([((-2147483648), 2147483647)], [], 65, [], [], [])), (some (.inl ([(1, 1)], 0)), ([((-2147483648), 2147483647), ((-2147483648), 2147483647)], [], 65, [], [], []))])
def zn_X3_fewestFor : List zf_X := [(0, 1, .iconst 0, []), (1, 1, .istore_n 2, []), (2, 1, .iconst 0, []), (3, 1, .istore_n 3, []), (4, 2, .bipush 32, []), (6, 2, .istore 4, []), (8, 2, .iload 4, []), (10, 3, .ifCond .le 63, []), (13, 1, .iconst 0, []), (14, 2, .istore 5, []), (16, 2, .iload 5, []), (18, 1, .aload_n 0, []), (19, 3, .getfield 27, []), (22, 3, .if_icmp .ge 45, []), (25, 1, .aload_n 0, []), (26, 3, .getfield 15, []), (29, 2, .iload 5, []), (31, 1, .iaload, []), (32, 2, .iload 4, []), (34, 3, .if_icmp .ne 27, []), (37, 1, .aload_n 0, []), (38, 2, .iload 5, []), (40, 3, .invokevirtual 69, [0]), (43, 3, .ifCond .eq 18, []), (46, 1, .iload_n 2, []), (47, 2, .iload 4, []), (49, 1, .iadd, []), (50, 1, .istore_n 2, []), (51, 3, .iinc 3 1, []), (54, 1, .iload_n 2, []), (55, 1, .iload_n 1, []), (56, 3, .if_icmp .lt 5, []), (59, 1, .iload_n 3, []), (60, 1, .ireturn, []), (61, 3, .iinc 5 1, []), (64, 3, .goto (-48), []), (67, 3, .iinc 4 (-1), []), (70, 3, .goto (-62), []), (73, 1, .iconst (-1), []), (74, 1, .ireturn, [])]
def zu_X3_fewestFor : List zf_U := [(8, ([((-2147483648), 2147483647), ((-2147483648), 2147483647), ((-2147483648), 2147483647), (0, 32)], [], 65, [(0, .inr (some (66, 64))), (1, .inl ([(0, 1)], 0)), (2, .inl ([(1, 1)], 0)), (3, .inl ([(2, 1)], 0)), (4, .inl ([(3, 1)], 0))], [], []), ([(3, 19)], 0), 0),
  (16, ([((-2147483648), 2147483647), ((-2147483648), 2147483647), ((-2147483648), 2147483647), (1, 32), (0, 16)], [], 65, [(0, .inr (some (66, 64))), (1, .inl ([(0, 1)], 0)), (2, .inl ([(1, 1)], 0)), (3, .inl ([(2, 1)], 0)), (4, .inl ([(3, 1)], 0)), (5, .inl ([(4, 1)], 0))], [], []), ([(3, 19), (4, (-1))], (-2)), 0)]
set_option maxRecDepth 100000 in
set_option maxHeartbeats 4000000 in
theorem kc_X3_fewestFor (l : Launch) (D : va_G) (k : Nat → ClassId) (B0 : Nat) (ad : Nat → Nat) (al sw : Nat) : zf_Con l yX3_fewestFor (zw yX3_fewestFor cX3_fewestFor 6 (some .int)) ({ frames := 3, cells := 0, slots := 0, locals := 65 }) D k (zEx B0 ad al sw) zGT 37 zm_X3_fewestFor := by
  have hEx := zEx_ok B0 ad al sw
  refine zf_mk (cc := cX3_fewestFor) (nL := 6) (ret := (some .int)) (Ms := [zm_X3_bears]) (fg := [(15, 1, 2, .inl (0, 0)), (27, 1, 0, .inl (0, 0))]) (fp := []) (ins := zn_X3_fewestFor) (cuts := zu_X3_fewestFor) (fuel := 3000) (by decide) rfl hEx (by decide +kernel) (by decide +kernel) (by decide +kernel) (by decide +kernel) ?_
  intro p e s m args below meth c Q Sg w0 A θ0 S hK hE hAB hA hone hsing
  refine ⟨?_, ?_, ?_⟩
  · exact zf_ac ((fun H locs ws a q0 fs v rest pc ls hP he hv hdg kk => va_get (D := D) (ci := 1) (C := RX3) (T := TX3) (N := 6) (own := RX3) S.1 S.2.1 S.2.2.2.2 (zg_in inW_X3) S.2.2.2.1 hK hP q0 he rfl 2 (by decide) (S.2.2.2.2 (.fieldLink RX3 15 "RungMoney$Ladders" "lengths" "[I") (List.mem_cons_of_mem _ zw_232)) (fun _ h9 => h9) hv hdg kk)) (zf_ac ((fun H locs ws a q0 fs v rest pc ls hP he hv hdg kk => va_get (D := D) (ci := 1) (C := RX3) (T := TX3) (N := 6) (own := RX3) S.1 S.2.1 S.2.2.2.2 (zg_in inW_X3) S.2.2.2.1 hK hP q0 he rfl 0 (by decide) (S.2.2.2.2 (.fieldLink RX3 27 "RungMoney$Ladders" "size" "I") (List.mem_cons_of_mem _ zw_225)) (fun _ h9 => h9) hv hdg kk)) zf_an)
  · exact zf_an
  · exact zf_crl (xs := [(.invokevirtual 69, 3, 0)]) (by decide +kernel) (zf_ac (zf_crV S hEx hE hAB hA hK hone hsing (kc_X3_bears l D k B0 ad al sw) (cwV 1 S.2.2.2.2 (zg_V zw_954 zw_955 zw_956 zw_100 zw_957) rfl rfl rfl (by decide +kernel) ⟨(Nat.le_of_ble_eq_true rfl), (Nat.le_of_ble_eq_true rfl)⟩) ⟨(Nat.le_of_ble_eq_true rfl), (Nat.le_of_ble_eq_true rfl)⟩ 1 rfl rfl (ar := [.inl ([(0, 1)], 0)]) rfl rfl (by decide +kernel)) zf_an)
def zm_X3_leastLook : zf_M := (([((-2147483648), 2147483647)], [], 65, [], [.inl ([(0, 1)], 0), .inr (some (66, 64))], []), [], [(some (.inl ([(1, 1)], 0)), ([((-2147483648), 2147483647), ((-2147483648), 2147483647)], [], 65, [], [], []))])
def zn_X3_leastLook : List zf_X := [(0, 1, .iconst (-1), []), (1, 1, .istore_n 2, []), (2, 1, .iconst 0, []), (3, 1, .istore_n 3, []), (4, 1, .iload_n 3, []), (5, 1, .aload_n 0, []), (6, 3, .getfield 27, []), (9, 3, .if_icmp .ge 52, []), (12, 1, .aload_n 0, []), (13, 1, .iload_n 3, []), (14, 3, .invokevirtual 69, [0]), (17, 3, .ifCond .eq 38, []), (20, 1, .aload_n 0, []), (21, 3, .getfield 15, []), (24, 1, .iload_n 3, []), (25, 1, .iaload, []), (26, 1, .iload_n 1, []), (27, 3, .if_icmp .lt 28, []), (30, 1, .aload_n 0, []), (31, 1, .iload_n 3, []), (32, 1, .iconst 2, []), (33, 3, .invokevirtual 53, [1]), (36, 2, .istore 4, []), (38, 1, .iload_n 2, []), (39, 1, .iconst (-1), []), (40, 3, .if_icmp .ne 8, []), (43, 2, .iload 4, []), (45, 3, .goto 9, []), (48, 1, .iload_n 2, []), (49, 2, .iload 4, []), (51, 3, .invokestatic 72, [2]), (54, 1, .istore_n 2, []), (55, 3, .iinc 3 1, []), (58, 3, .goto (-54), []), (61, 1, .iload_n 2, []), (62, 1, .ireturn, [])]
def zu_X3_leastLook : List zf_U := [(4, ([((-2147483648), 2147483647), ((-2147483648), 2147483647), (0, 16)], [], 65, [(0, .inr (some (66, 64))), (1, .inl ([(0, 1)], 0)), (2, .inl ([(1, 1)], 0)), (3, .inl ([(2, 1)], 0))], [], []), ([(2, (-1))], 17), 0)]
theorem zw_1029 : (Jvm.Cond.methodLink RX3 72 Lib.Math.min.name) ∈ lw_g := lw_t4 rfl (List.mem_of_getElem? (i := 215) rfl)
set_option maxRecDepth 100000 in
set_option maxHeartbeats 4000000 in
theorem kc_X3_leastLook (l : Launch) (D : va_G) (k : Nat → ClassId) (B0 : Nat) (ad : Nat → Nat) (al sw : Nat) : zf_Con l yX3_leastLook (zw yX3_leastLook cX3_leastLook 5 (some .int)) ({ frames := 3, cells := 0, slots := 0, locals := 65 }) D k (zEx B0 ad al sw) zGT 37 zm_X3_leastLook := by
  have hEx := zEx_ok B0 ad al sw
  refine zf_mk (cc := cX3_leastLook) (nL := 5) (ret := (some .int)) (Ms := [zm_X3_bears, zm_X3_measure, zf_mMin]) (fg := [(15, 1, 2, .inl (0, 0)), (27, 1, 0, .inl (0, 0))]) (fp := []) (ins := zn_X3_leastLook) (cuts := zu_X3_leastLook) (fuel := 3000) (by decide) rfl hEx (by decide +kernel) (by decide +kernel) (by decide +kernel) (by decide +kernel) ?_
  intro p e s m args below meth c Q Sg w0 A θ0 S hK hE hAB hA hone hsing
  refine ⟨?_, ?_, ?_⟩
  · exact zf_ac ((fun H locs ws a q0 fs v rest pc ls hP he hv hdg kk => va_get (D := D) (ci := 1) (C := RX3) (T := TX3) (N := 6) (own := RX3) S.1 S.2.1 S.2.2.2.2 (zg_in inW_X3) S.2.2.2.1 hK hP q0 he rfl 2 (by decide) (S.2.2.2.2 (.fieldLink RX3 15 "RungMoney$Ladders" "lengths" "[I") (List.mem_cons_of_mem _ zw_232)) (fun _ h9 => h9) hv hdg kk)) (zf_ac ((fun H locs ws a q0 fs v rest pc ls hP he hv hdg kk => va_get (D := D) (ci := 1) (C := RX3) (T := TX3) (N := 6) (own := RX3) S.1 S.2.1 S.2.2.2.2 (zg_in inW_X3) S.2.2.2.1 hK hP q0 he rfl 0 (by decide) (S.2.2.2.2 (.fieldLink RX3 27 "RungMoney$Ladders" "size" "I") (List.mem_cons_of_mem _ zw_225)) (fun _ h9 => h9) hv hdg kk)) zf_an)
  · exact zf_an
  · exact zf_crl (xs := [(.invokevirtual 69, 3, 0), (.invokevirtual 53, 3, 1), (.invokestatic 72, 3, 2)]) (by decide +kernel) (zf_ac (zf_crV S hEx hE hAB hA hK hone hsing (kc_X3_bears l D k B0 ad al sw) (cwV 1 S.2.2.2.2 (zg_V zw_954 zw_955 zw_956 zw_100 zw_957) rfl rfl rfl (by decide +kernel) ⟨(Nat.le_of_ble_eq_true rfl), (Nat.le_of_ble_eq_true rfl)⟩) ⟨(Nat.le_of_ble_eq_true rfl), (Nat.le_of_ble_eq_true rfl)⟩ 1 rfl rfl (ar := [.inl ([(0, 1)], 0)]) rfl rfl (by decide +kernel)) (zf_ac (zf_crV S hEx hE hAB hA hK hone hsing (kc_X3_measure l D k B0 ad al sw) (cwV 2 S.2.2.2.2 (zg_V zw_665 zw_666 zw_667 zw_100 zw_668) rfl rfl rfl (by decide +kernel) ⟨(Nat.le_of_ble_eq_true rfl), (Nat.le_of_ble_eq_true rfl)⟩) ⟨(Nat.le_of_ble_eq_true rfl), (Nat.le_of_ble_eq_true rfl)⟩ 1 rfl rfl (ar := [.inl ([(1, 1)], 0), .inl ([(0, 1)], 0)]) rfl rfl (by decide +kernel)) (zf_ac (zf_crmin (own := RX3) S.1 S.2.1 S.2.2.1 S.2.2.2.1 (S.2.2.2.2 (.methodLink RX3 72 Lib.Math.min.name) (List.mem_cons_of_mem _ zw_1029)) (S.2.2.2.2 (.static Lib.Math.min.name) (List.mem_cons_of_mem _ zw_760)) (S.2.2.2.2 (.initialized "java/lang/Math") (List.mem_cons_of_mem _ zw_116)) (S.2.2.2.2 (.code Lib.Math.min.name Lib.Math.min.code 2 (some .int)) (List.mem_cons_of_mem _ zw_761)) (Nat.le_of_ble_eq_true rfl) (Nat.le_of_ble_eq_true rfl) (Nat.le_of_ble_eq_true rfl) (Nat.le_of_ble_eq_true rfl)) zf_an)))
def zm_X3_mostPainted : zf_M := (([], [], 65, [], [.inr (some (66, 64))], []), [], [(some (.inl ([(0, 1)], 0)), ([((-1), 15)], [], 65, [], [], []))])
def zn_X3_mostPainted : List zf_X := [(0, 1, .iconst (-1), []), (1, 1, .istore_n 1, []), (2, 1, .iconst 0, []), (3, 1, .istore_n 2, []), (4, 1, .iconst 1, []), (5, 1, .istore_n 3, []), (6, 1, .iconst 0, []), (7, 2, .istore 4, []), (9, 2, .iload 4, []), (11, 1, .aload_n 0, []), (12, 3, .getfield 27, []), (15, 3, .if_icmp .ge 50, []), (18, 1, .aload_n 0, []), (19, 3, .getfield 21, []), (22, 2, .iload 4, []), (24, 1, .iaload, []), (25, 3, .invokestatic 41, [0]), (28, 2, .istore 5, []), (30, 1, .aload_n 0, []), (31, 2, .iload 4, []), (33, 1, .iconst 2, []), (34, 3, .invokevirtual 53, [1]), (37, 2, .istore 6, []), (39, 2, .iload 5, []), (41, 1, .iload_n 3, []), (42, 1, .imul, []), (43, 1, .iload_n 2, []), (44, 2, .iload 6, []), (46, 1, .imul, []), (47, 3, .if_icmp .le 12, []), (50, 2, .iload 4, []), (52, 1, .istore_n 1, []), (53, 2, .iload 5, []), (55, 1, .istore_n 2, []), (56, 2, .iload 6, []), (58, 1, .istore_n 3, []), (59, 3, .iinc 4 1, []), (62, 3, .goto (-53), []), (65, 1, .iload_n 1, []), (66, 1, .ireturn, [])]
def zu_X3_mostPainted : List zf_U := [(9, ([((-1), 15), (0, 63), ((-2147483648), 2147483647), (0, 16)], [], 65, [(0, .inr (some (66, 64))), (1, .inl ([(0, 1)], 0)), (2, .inl ([(1, 1)], 0)), (3, .inl ([(2, 1)], 0)), (4, .inl ([(3, 1)], 0))], [], []), ([(3, (-1))], 17), 0)]
set_option maxRecDepth 100000 in
set_option maxHeartbeats 4000000 in
theorem kc_X3_mostPainted (l : Launch) (D : va_G) (k : Nat → ClassId) (B0 : Nat) (ad : Nat → Nat) (al sw : Nat) : zf_Con l yX3_mostPainted (zw yX3_mostPainted cX3_mostPainted 7 (some .int)) ({ frames := 2, cells := 0, slots := 0, locals := 44 }) D k (zEx B0 ad al sw) zGT 37 zm_X3_mostPainted := by
  have hEx := zEx_ok B0 ad al sw
  refine zf_mk (cc := cX3_mostPainted) (nL := 7) (ret := (some .int)) (Ms := [zm_J6_bitCount_0f7a4, zm_X3_measure]) (fg := [(21, 1, 4, .inl (0, 0)), (27, 1, 0, .inl (0, 0))]) (fp := []) (ins := zn_X3_mostPainted) (cuts := zu_X3_mostPainted) (fuel := 3000) (by decide) rfl hEx (by decide +kernel) (by decide +kernel) (by decide +kernel) (by decide +kernel) ?_
  intro p e s m args below meth c Q Sg w0 A θ0 S hK hE hAB hA hone hsing
  refine ⟨?_, ?_, ?_⟩
  · exact zf_ac ((fun H locs ws a q0 fs v rest pc ls hP he hv hdg kk => va_get (D := D) (ci := 1) (C := RX3) (T := TX3) (N := 6) (own := RX3) S.1 S.2.1 S.2.2.2.2 (zg_in inW_X3) S.2.2.2.1 hK hP q0 he rfl 4 (by decide) (S.2.2.2.2 (.fieldLink RX3 21 "RungMoney$Ladders" "paints" "[I") (List.mem_cons_of_mem _ zw_234)) (fun _ h9 => h9) hv hdg kk)) (zf_ac ((fun H locs ws a q0 fs v rest pc ls hP he hv hdg kk => va_get (D := D) (ci := 1) (C := RX3) (T := TX3) (N := 6) (own := RX3) S.1 S.2.1 S.2.2.2.2 (zg_in inW_X3) S.2.2.2.1 hK hP q0 he rfl 0 (by decide) (S.2.2.2.2 (.fieldLink RX3 27 "RungMoney$Ladders" "size" "I") (List.mem_cons_of_mem _ zw_225)) (fun _ h9 => h9) hv hdg kk)) zf_an)
  · exact zf_an
  · exact zf_crl (xs := [(.invokestatic 41, 3, 0), (.invokevirtual 53, 3, 1)]) (by decide +kernel) (zf_ac (zf_crS S hEx hE hAB hA hK hone hsing (kc_J6_bitCount_0f7a4 l D k B0 ad al sw) (va_cwS 1 S.2.2.2.2 (zg_S zw_669 zw_670 zw_115 zw_671) rfl rfl rfl (by decide +kernel) ⟨(Nat.le_of_ble_eq_true rfl), (Nat.le_of_ble_eq_true rfl)⟩) ⟨(Nat.le_of_ble_eq_true rfl), (Nat.le_of_ble_eq_true rfl)⟩ rfl) (zf_ac (zf_crV S hEx hE hAB hA hK hone hsing (kc_X3_measure l D k B0 ad al sw) (cwV 2 S.2.2.2.2 (zg_V zw_665 zw_666 zw_667 zw_100 zw_668) rfl rfl rfl (by decide +kernel) ⟨(Nat.le_of_ble_eq_true rfl), (Nat.le_of_ble_eq_true rfl)⟩) ⟨(Nat.le_of_ble_eq_true rfl), (Nat.le_of_ble_eq_true rfl)⟩ 1 rfl rfl (ar := [.inl ([(1, 1)], 0), .inl ([(0, 1)], 0)]) rfl rfl (by decide +kernel)) zf_an))
def zm_X3_rungsThatLook : zf_M := (([(0, 15), ((-2147483648), 2147483647)], [], 65, [], [.inl ([(1, 1)], 0), .inl ([(0, 1)], 0), .inr (some (66, 64))], []), [], [(some (.inl ([(2, 1)], 0)), ([(0, 15), ((-2147483648), 2147483647), (0, 2147483646)], [], 65, [], [], [])), (some (.inl ([(2, 1)], 0)), ([(0, 15), ((-2147483648), 2147483647), (0, 2147483647)], [], 65, [], [], []))])
def zn_X3_rungsThatLook : List zf_X := [(0, 1, .iconst 0, []), (1, 1, .istore_n 3, []), (2, 1, .iconst 0, []), (3, 2, .istore 4, []), (5, 2, .iload 4, []), (7, 1, .aload_n 0, []), (8, 3, .getfield 15, []), (11, 1, .iload_n 1, []), (12, 1, .iaload, []), (13, 3, .if_icmp .ge 35, []), (16, 1, .iload_n 3, []), (17, 1, .iload_n 2, []), (18, 3, .if_icmp .ge 30, []), (21, 1, .iload_n 3, []), (22, 1, .aload_n 0, []), (23, 3, .getfield 18, []), (26, 1, .iload_n 1, []), (27, 1, .iaload, []), (28, 1, .aload_n 0, []), (29, 3, .getfield 21, []), (32, 1, .iload_n 1, []), (33, 1, .iaload, []), (34, 1, .ior, []), (35, 2, .iload 4, []), (37, 1, .iushr, []), (38, 1, .iconst 1, []), (39, 1, .iand, []), (40, 1, .iadd, []), (41, 1, .istore_n 3, []), (42, 3, .iinc 4 1, []), (45, 3, .goto (-40), []), (48, 2, .iload 4, []), (50, 1, .ireturn, [])]
def zu_X3_rungsThatLook : List zf_U := [(5, ([(0, 15), ((-2147483648), 2147483647), (0, 2147483647), (0, 2147483647)], [], 65, [(0, .inr (some (66, 64))), (1, .inl ([(0, 1)], 0)), (2, .inl ([(1, 1)], 0)), (3, .inl ([(2, 1)], 0)), (4, .inl ([(3, 1)], 0))], [], []), ([(3, (-1))], 2147483648), 0)]
set_option maxRecDepth 100000 in
set_option maxHeartbeats 4000000 in
theorem kc_X3_rungsThatLook (l : Launch) (D : va_G) (k : Nat → ClassId) (B0 : Nat) (ad : Nat → Nat) (al sw : Nat) : zf_Con l yX3_rungsThatLook (zw yX3_rungsThatLook cX3_rungsThatLook 5 (some .int)) ({ frames := 0, cells := 0, slots := 0, locals := 0 }) D k (zEx B0 ad al sw) zGT 37 zm_X3_rungsThatLook := by
  have hEx := zEx_ok B0 ad al sw
  refine zf_mk (cc := cX3_rungsThatLook) (nL := 5) (ret := (some .int)) (Ms := []) (fg := [(15, 1, 2, .inl (0, 0)), (18, 1, 3, .inl (0, 0)), (21, 1, 4, .inl (0, 0))]) (fp := []) (ins := zn_X3_rungsThatLook) (cuts := zu_X3_rungsThatLook) (fuel := 3000) (by decide) rfl hEx (by decide +kernel) (by decide +kernel) (by decide +kernel) (by decide +kernel) ?_
  intro p e s m args below meth c Q Sg w0 A θ0 S hK hE hAB hA hone hsing
  refine ⟨?_, ?_, ?_⟩
  · exact zf_ac ((fun H locs ws a q0 fs v rest pc ls hP he hv hdg kk => va_get (D := D) (ci := 1) (C := RX3) (T := TX3) (N := 6) (own := RX3) S.1 S.2.1 S.2.2.2.2 (zg_in inW_X3) S.2.2.2.1 hK hP q0 he rfl 2 (by decide) (S.2.2.2.2 (.fieldLink RX3 15 "RungMoney$Ladders" "lengths" "[I") (List.mem_cons_of_mem _ zw_232)) (fun _ h9 => h9) hv hdg kk)) (zf_ac ((fun H locs ws a q0 fs v rest pc ls hP he hv hdg kk => va_get (D := D) (ci := 1) (C := RX3) (T := TX3) (N := 6) (own := RX3) S.1 S.2.1 S.2.2.2.2 (zg_in inW_X3) S.2.2.2.1 hK hP q0 he rfl 3 (by decide) (S.2.2.2.2 (.fieldLink RX3 18 "RungMoney$Ladders" "sounds" "[I") (List.mem_cons_of_mem _ zw_233)) (fun _ h9 => h9) hv hdg kk)) (zf_ac ((fun H locs ws a q0 fs v rest pc ls hP he hv hdg kk => va_get (D := D) (ci := 1) (C := RX3) (T := TX3) (N := 6) (own := RX3) S.1 S.2.1 S.2.2.2.2 (zg_in inW_X3) S.2.2.2.1 hK hP q0 he rfl 4 (by decide) (S.2.2.2.2 (.fieldLink RX3 21 "RungMoney$Ladders" "paints" "[I") (List.mem_cons_of_mem _ zw_234)) (fun _ h9 => h9) hv hdg kk)) zf_an))
  · exact zf_an
  · exact zf_crl (xs := []) (by decide +kernel) (zf_an)
def zm_X3_cutFor : zf_M := (([((-2147483648), 2147483647), ((-2147483648), 2147483647)], [], 65, [], [.inl ([(1, 1)], 0), .inl ([(0, 1)], 0), .inr (some (66, 64))], []), [], [(some (.inl ([], (-1))), ([((-2147483648), 2147483647), ((-2147483648), 2147483647)], [], 65, [], [], [])), (some (.inl ([(2, 1)], 0)), ([((-2147483648), 2147483647), ((-2147483648), 2147483647), ((-2147483648), 2147483647)], [], 65, [], [], []))])
def zn_X3_cutFor : List zf_X := [(0, 1, .iconst (-1), []), (1, 1, .istore_n 3, []), (2, 1, .iload_n 2, []), (3, 2, .istore 4, []), (5, 1, .iconst 0, []), (6, 2, .istore 5, []), (8, 2, .iload 5, []), (10, 1, .aload_n 0, []), (11, 3, .getfield 27, []), (14, 3, .if_icmp .ge 42, []), (17, 1, .iload_n 1, []), (18, 2, .iload 5, []), (20, 1, .ishr, []), (21, 1, .iconst 1, []), (22, 1, .iand, []), (23, 1, .iconst 1, []), (24, 3, .if_icmp .ne 26, []), (27, 1, .iload_n 3, []), (28, 1, .iconst (-1), []), (29, 3, .if_icmp .ne 9, []), (32, 2, .iload 5, []), (34, 1, .istore_n 3, []), (35, 3, .goto 15, []), (38, 2, .iload 4, []), (40, 1, .aload_n 0, []), (41, 2, .iload 5, []), (43, 1, .iconst 2, []), (44, 3, .invokevirtual 53, [0]), (47, 1, .isub, []), (48, 2, .istore 4, []), (50, 3, .iinc 5 1, []), (53, 3, .goto (-45), []), (56, 1, .iload_n 3, []), (57, 1, .iconst (-1), []), (58, 3, .if_icmp .ne 7, []), (61, 1, .iconst (-1), []), (62, 3, .goto 15, []), (65, 1, .iload_n 3, []), (66, 2, .bipush 100, []), (68, 1, .imul, []), (69, 1, .aload_n 0, []), (70, 1, .iload_n 3, []), (71, 2, .iload 4, []), (73, 3, .invokevirtual 75, [1]), (76, 1, .iadd, []), (77, 1, .ireturn, [])]
def zu_X3_cutFor : List zf_U := [(8, ([((-2147483648), 2147483647), ((-2147483648), 2147483647), ((-1), 15), ((-2147483648), 2147483647), (0, 16)], [], 65, [(0, .inr (some (66, 64))), (1, .inl ([(0, 1)], 0)), (2, .inl ([(1, 1)], 0)), (3, .inl ([(2, 1)], 0)), (4, .inl ([(3, 1)], 0)), (5, .inl ([(4, 1)], 0))], [], []), ([(4, (-1))], 17), 0)]
theorem zw_936 : (Jvm.Cond.code yX3_rungsThatLook cX3_rungsThatLook 5 (some .int)) ∈ lw_g := lw_t4 rfl (List.mem_of_getElem? (i := 122) rfl)
theorem zw_933 : (Jvm.Cond.methodLink RX3 75 yX3_rungsThatLook) ∈ lw_g := lw_t4 rfl (List.mem_of_getElem? (i := 119) rfl)
theorem zw_935 : (Jvm.Cond.instanceMethod yX3_rungsThatLook) ∈ lw_g := lw_t4 rfl (List.mem_of_getElem? (i := 121) rfl)
theorem zw_12 : (Jvm.Cond.selects RX3 yX3_rungsThatLook yX3_rungsThatLook) ∈ lw_g := lw_s rfl (List.mem_of_getElem? (i := 12) rfl)
set_option maxRecDepth 100000 in
set_option maxHeartbeats 4000000 in
theorem kc_X3_cutFor (l : Launch) (D : va_G) (k : Nat → ClassId) (B0 : Nat) (ad : Nat → Nat) (al sw : Nat) : zf_Con l yX3_cutFor (zw yX3_cutFor cX3_cutFor 6 (some .int)) ({ frames := 2, cells := 0, slots := 0, locals := 44 }) D k (zEx B0 ad al sw) zGT 37 zm_X3_cutFor := by
  have hEx := zEx_ok B0 ad al sw
  refine zf_mk (cc := cX3_cutFor) (nL := 6) (ret := (some .int)) (Ms := [zm_X3_measure, zm_X3_rungsThatLook]) (fg := [(27, 1, 0, .inl (0, 0))]) (fp := []) (ins := zn_X3_cutFor) (cuts := zu_X3_cutFor) (fuel := 3000) (by decide) rfl hEx (by decide +kernel) (by decide +kernel) (by decide +kernel) (by decide +kernel) ?_
  intro p e s m args below meth c Q Sg w0 A θ0 S hK hE hAB hA hone hsing
  refine ⟨?_, ?_, ?_⟩
  · exact zf_ac ((fun H locs ws a q0 fs v rest pc ls hP he hv hdg kk => va_get (D := D) (ci := 1) (C := RX3) (T := TX3) (N := 6) (own := RX3) S.1 S.2.1 S.2.2.2.2 (zg_in inW_X3) S.2.2.2.1 hK hP q0 he rfl 0 (by decide) (S.2.2.2.2 (.fieldLink RX3 27 "RungMoney$Ladders" "size" "I") (List.mem_cons_of_mem _ zw_225)) (fun _ h9 => h9) hv hdg kk)) zf_an
  · exact zf_an
  · exact zf_crl (xs := [(.invokevirtual 53, 3, 0), (.invokevirtual 75, 3, 1)]) (by decide +kernel) (zf_ac (zf_crV S hEx hE hAB hA hK hone hsing (kc_X3_measure l D k B0 ad al sw) (cwV 2 S.2.2.2.2 (zg_V zw_665 zw_666 zw_667 zw_100 zw_668) rfl rfl rfl (by decide +kernel) ⟨(Nat.le_of_ble_eq_true rfl), (Nat.le_of_ble_eq_true rfl)⟩) ⟨(Nat.le_of_ble_eq_true rfl), (Nat.le_of_ble_eq_true rfl)⟩ 1 rfl rfl (ar := [.inl ([(1, 1)], 0), .inl ([(0, 1)], 0)]) rfl rfl (by decide +kernel)) (zf_ac (zf_crV S hEx hE hAB hA hK hone hsing (kc_X3_rungsThatLook l D k B0 ad al sw) (cwV 2 S.2.2.2.2 (zg_V zw_933 zw_935 zw_12 zw_100 zw_936) rfl rfl rfl (by decide +kernel) ⟨(Nat.le_of_ble_eq_true rfl), (Nat.le_of_ble_eq_true rfl)⟩) ⟨(Nat.le_of_ble_eq_true rfl), (Nat.le_of_ble_eq_true rfl)⟩ 1 rfl rfl (ar := [.inl ([(1, 1)], 0), .inl ([(0, 1)], 0)]) rfl rfl (by decide +kernel)) zf_an))
def zm_X3_add : zf_M := (([((-2147483648), 2147483647), ((-2147483648), 2147483647), ((-2147483648), 2147483647), ((-2147483648), 2147483647), ((-2147483648), 2147483647)], [], 65, [], [.inl ([(4, 1)], 0), .inl ([(3, 1)], 0), .inl ([(2, 1)], 0), .inl ([(1, 1)], 0), .inl ([(0, 1)], 0), .inr (some (66, 64))], []), [(67, ([], 0), ([], 15)), (68, ([], 0), ([], 15)), (69, ([], 0), ([], 15)), (70, ([], 0), ([], 15)), (71, ([], 0), ([], 15)), (66, ([], 0), ([], 0))], [(none, ([((-2147483648), 2147483647), ((-2147483648), 2147483647), ((-2147483648), 2147483647), ((-2147483648), 2147483647), ((-2147483648), 2147483647)], [], 65, [], [], []))])
def zn_X3_add : List zf_X := [(0, 1, .aload_n 0, []), (1, 3, .getfield 27, []), (4, 2, .bipush 16, []), (6, 3, .if_icmp .ge 65, []), (9, 1, .aload_n 0, []), (10, 3, .getfield 9, []), (13, 1, .aload_n 0, []), (14, 3, .getfield 27, []), (17, 1, .iload_n 1, []), (18, 1, .iastore, []), (19, 1, .aload_n 0, []), (20, 3, .getfield 15, []), (23, 1, .aload_n 0, []), (24, 3, .getfield 27, []), (27, 1, .iload_n 2, []), (28, 1, .iastore, []), (29, 1, .aload_n 0, []), (30, 3, .getfield 18, []), (33, 1, .aload_n 0, []), (34, 3, .getfield 27, []), (37, 1, .iload_n 3, []), (38, 1, .iastore, []), (39, 1, .aload_n 0, []), (40, 3, .getfield 21, []), (43, 1, .aload_n 0, []), (44, 3, .getfield 27, []), (47, 2, .iload 4, []), (49, 1, .iastore, []), (50, 1, .aload_n 0, []), (51, 3, .getfield 24, []), (54, 1, .aload_n 0, []), (55, 3, .getfield 27, []), (58, 2, .iload 5, []), (60, 1, .iastore, []), (61, 1, .aload_n 0, []), (62, 1, .dup, []), (63, 3, .getfield 27, []), (66, 1, .iconst 1, []), (67, 1, .iadd, []), (68, 3, .putfield 27, []), (71, 1, .return_, [])]
def zu_X3_add : List zf_U := []
set_option maxRecDepth 100000 in
set_option maxHeartbeats 4000000 in
theorem kc_X3_add (l : Launch) (D : va_G) (k : Nat → ClassId) (B0 : Nat) (ad : Nat → Nat) (al sw : Nat) : zf_Con l yX3_add (zw yX3_add cX3_add 6 none) ({ frames := 0, cells := 0, slots := 0, locals := 0 }) D k (zEx B0 ad al sw) zGT 37 zm_X3_add := by
  have hEx := zEx_ok B0 ad al sw
  refine zf_mk (cc := cX3_add) (nL := 6) (ret := none) (Ms := []) (fg := [(9, 1, 1, .inl (0, 0)), (15, 1, 2, .inl (0, 0)), (18, 1, 3, .inl (0, 0)), (21, 1, 4, .inl (0, 0)), (24, 1, 5, .inl (0, 0)), (27, 1, 0, .inl (0, 0))]) (fp := [(27, 1, 0, .inl ((-2147483648), 2147483647))]) (ins := zn_X3_add) (cuts := zu_X3_add) (fuel := 3000) (by decide) rfl hEx (by decide +kernel) (by decide +kernel) (by decide +kernel) (by decide +kernel) ?_
  intro p e s m args below meth c Q Sg w0 A θ0 S hK hE hAB hA hone hsing
  refine ⟨?_, ?_, ?_⟩
  · exact zf_ac ((fun H locs ws a q0 fs v rest pc ls hP he hv hdg kk => va_get (D := D) (ci := 1) (C := RX3) (T := TX3) (N := 6) (own := RX3) S.1 S.2.1 S.2.2.2.2 (zg_in inW_X3) S.2.2.2.1 hK hP q0 he rfl 1 (by decide) (S.2.2.2.2 (.fieldLink RX3 9 "RungMoney$Ladders" "owners" "[I") (List.mem_cons_of_mem _ zw_231)) (fun _ h9 => h9) hv hdg kk)) (zf_ac ((fun H locs ws a q0 fs v rest pc ls hP he hv hdg kk => va_get (D := D) (ci := 1) (C := RX3) (T := TX3) (N := 6) (own := RX3) S.1 S.2.1 S.2.2.2.2 (zg_in inW_X3) S.2.2.2.1 hK hP q0 he rfl 2 (by decide) (S.2.2.2.2 (.fieldLink RX3 15 "RungMoney$Ladders" "lengths" "[I") (List.mem_cons_of_mem _ zw_232)) (fun _ h9 => h9) hv hdg kk)) (zf_ac ((fun H locs ws a q0 fs v rest pc ls hP he hv hdg kk => va_get (D := D) (ci := 1) (C := RX3) (T := TX3) (N := 6) (own := RX3) S.1 S.2.1 S.2.2.2.2 (zg_in inW_X3) S.2.2.2.1 hK hP q0 he rfl 3 (by decide) (S.2.2.2.2 (.fieldLink RX3 18 "RungMoney$Ladders" "sounds" "[I") (List.mem_cons_of_mem _ zw_233)) (fun _ h9 => h9) hv hdg kk)) (zf_ac ((fun H locs ws a q0 fs v rest pc ls hP he hv hdg kk => va_get (D := D) (ci := 1) (C := RX3) (T := TX3) (N := 6) (own := RX3) S.1 S.2.1 S.2.2.2.2 (zg_in inW_X3) S.2.2.2.1 hK hP q0 he rfl 4 (by decide) (S.2.2.2.2 (.fieldLink RX3 21 "RungMoney$Ladders" "paints" "[I") (List.mem_cons_of_mem _ zw_234)) (fun _ h9 => h9) hv hdg kk)) (zf_ac ((fun H locs ws a q0 fs v rest pc ls hP he hv hdg kk => va_get (D := D) (ci := 1) (C := RX3) (T := TX3) (N := 6) (own := RX3) S.1 S.2.1 S.2.2.2.2 (zg_in inW_X3) S.2.2.2.1 hK hP q0 he rfl 5 (by decide) (S.2.2.2.2 (.fieldLink RX3 24 "RungMoney$Ladders" "hands" "[I") (List.mem_cons_of_mem _ zw_235)) (fun _ h9 => h9) hv hdg kk)) (zf_ac ((fun H locs ws a q0 fs v rest pc ls hP he hv hdg kk => va_get (D := D) (ci := 1) (C := RX3) (T := TX3) (N := 6) (own := RX3) S.1 S.2.1 S.2.2.2.2 (zg_in inW_X3) S.2.2.2.1 hK hP q0 he rfl 0 (by decide) (S.2.2.2.2 (.fieldLink RX3 27 "RungMoney$Ladders" "size" "I") (List.mem_cons_of_mem _ zw_225)) (fun _ h9 => h9) hv hdg kk)) zf_an)))))
  · exact zf_ac ((fun H locs ws a q0 fs v rest pc ls hP hD hS he hl hv hdg kk => by obtain ⟨x, rfl, h1, h2⟩ := hv; exact va_put (D := D) (ci := 1) (v := .int x) (ty := .int) (C := RX3) (T := TX3) (N := 6) (own := RX3) S.1 S.2.1 S.2.2.2.2 (zg_in inW_X3) tyX3 tyX3_ok nmX3 S.2.2.2.1 hK hP hD hS q0 he rfl 0 (by decide) (S.2.2.2.2 (.fieldLink RX3 27 "RungMoney$Ladders" "size" "I") (List.mem_cons_of_mem _ zw_225)) (fun _ h9 => h9) rfl (by decide +kernel) rfl rfl hl hdg kk)) zf_an
  · exact zf_crl (xs := []) (by decide +kernel) (zf_an)
def zm_X3_vanish : zf_M := (([((-2147483648), 2147483647)], [], 65, [], [.inl ([(0, 1)], 0), .inr (some (66, 64))], []), [(67, ([], 0), ([], 15)), (68, ([], 0), ([], 15)), (69, ([], 0), ([], 15)), (70, ([], 0), ([], 15))], [(none, ([((-2147483648), (-1))], [], 65, [], [], [])), (none, ([(0, 2147483647)], [], 65, [], [], [])), (none, ([(0, 15)], [], 65, [], [], []))])
def zn_X3_vanish : List zf_X := [(0, 1, .aload_n 0, []), (1, 1, .iload_n 1, []), (2, 3, .invokevirtual 37, [0]), (5, 3, .ifCond .eq 31, []), (8, 1, .aload_n 0, []), (9, 3, .getfield 9, []), (12, 1, .iload_n 1, []), (13, 1, .iconst (-1), []), (14, 1, .iastore, []), (15, 1, .aload_n 0, []), (16, 3, .getfield 15, []), (19, 1, .iload_n 1, []), (20, 1, .iconst 0, []), (21, 1, .iastore, []), (22, 1, .aload_n 0, []), (23, 3, .getfield 18, []), (26, 1, .iload_n 1, []), (27, 1, .iconst 0, []), (28, 1, .iastore, []), (29, 1, .aload_n 0, []), (30, 3, .getfield 21, []), (33, 1, .iload_n 1, []), (34, 1, .iconst 0, []), (35, 1, .iastore, []), (36, 1, .return_, [])]
def zu_X3_vanish : List zf_U := []
set_option maxRecDepth 100000 in
set_option maxHeartbeats 4000000 in
theorem kc_X3_vanish (l : Launch) (D : va_G) (k : Nat → ClassId) (B0 : Nat) (ad : Nat → Nat) (al sw : Nat) : zf_Con l yX3_vanish (zw yX3_vanish cX3_vanish 2 none) ({ frames := 1, cells := 0, slots := 0, locals := 21 }) D k (zEx B0 ad al sw) zGT 37 zm_X3_vanish := by
  have hEx := zEx_ok B0 ad al sw
  refine zf_mk (cc := cX3_vanish) (nL := 2) (ret := none) (Ms := [zm_X3_has]) (fg := [(9, 1, 1, .inl (0, 0)), (15, 1, 2, .inl (0, 0)), (18, 1, 3, .inl (0, 0)), (21, 1, 4, .inl (0, 0))]) (fp := []) (ins := zn_X3_vanish) (cuts := zu_X3_vanish) (fuel := 3000) (by decide) rfl hEx (by decide +kernel) (by decide +kernel) (by decide +kernel) (by decide +kernel) ?_
  intro p e s m args below meth c Q Sg w0 A θ0 S hK hE hAB hA hone hsing
  refine ⟨?_, ?_, ?_⟩
  · exact zf_ac ((fun H locs ws a q0 fs v rest pc ls hP he hv hdg kk => va_get (D := D) (ci := 1) (C := RX3) (T := TX3) (N := 6) (own := RX3) S.1 S.2.1 S.2.2.2.2 (zg_in inW_X3) S.2.2.2.1 hK hP q0 he rfl 1 (by decide) (S.2.2.2.2 (.fieldLink RX3 9 "RungMoney$Ladders" "owners" "[I") (List.mem_cons_of_mem _ zw_231)) (fun _ h9 => h9) hv hdg kk)) (zf_ac ((fun H locs ws a q0 fs v rest pc ls hP he hv hdg kk => va_get (D := D) (ci := 1) (C := RX3) (T := TX3) (N := 6) (own := RX3) S.1 S.2.1 S.2.2.2.2 (zg_in inW_X3) S.2.2.2.1 hK hP q0 he rfl 2 (by decide) (S.2.2.2.2 (.fieldLink RX3 15 "RungMoney$Ladders" "lengths" "[I") (List.mem_cons_of_mem _ zw_232)) (fun _ h9 => h9) hv hdg kk)) (zf_ac ((fun H locs ws a q0 fs v rest pc ls hP he hv hdg kk => va_get (D := D) (ci := 1) (C := RX3) (T := TX3) (N := 6) (own := RX3) S.1 S.2.1 S.2.2.2.2 (zg_in inW_X3) S.2.2.2.1 hK hP q0 he rfl 3 (by decide) (S.2.2.2.2 (.fieldLink RX3 18 "RungMoney$Ladders" "sounds" "[I") (List.mem_cons_of_mem _ zw_233)) (fun _ h9 => h9) hv hdg kk)) (zf_ac ((fun H locs ws a q0 fs v rest pc ls hP he hv hdg kk => va_get (D := D) (ci := 1) (C := RX3) (T := TX3) (N := 6) (own := RX3) S.1 S.2.1 S.2.2.2.2 (zg_in inW_X3) S.2.2.2.1 hK hP q0 he rfl 4 (by decide) (S.2.2.2.2 (.fieldLink RX3 21 "RungMoney$Ladders" "paints" "[I") (List.mem_cons_of_mem _ zw_234)) (fun _ h9 => h9) hv hdg kk)) zf_an)))
  · exact zf_an
  · exact zf_crl (xs := [(.invokevirtual 37, 3, 0)]) (by decide +kernel) (zf_ac (zf_crV S hEx hE hAB hA hK hone hsing (kc_X3_has l D k B0 ad al sw) (cwV 1 S.2.2.2.2 (zg_V zw_645 zw_646 zw_647 zw_100 zw_648) rfl rfl rfl (by decide +kernel) ⟨(Nat.le_of_ble_eq_true rfl), (Nat.le_of_ble_eq_true rfl)⟩) ⟨(Nat.le_of_ble_eq_true rfl), (Nat.le_of_ble_eq_true rfl)⟩ 1 rfl rfl (ar := [.inl ([(0, 1)], 0)]) rfl rfl (by decide +kernel)) zf_an)
def zm_X3_give : zf_M := (([((-2147483648), 2147483647), ((-2147483648), 2147483647)], [], 65, [], [.inl ([(1, 1)], 0), .inl ([(0, 1)], 0), .inr (some (66, 64))], []), [(67, ([], 0), ([], 15)), (71, ([], 0), ([], 15))], [(none, ([((-2147483648), (-1)), ((-2147483648), 2147483647)], [], 65, [], [], [])), (none, ([(0, 2147483647), ((-2147483648), 2147483647)], [], 65, [], [], [])), (none, ([(0, 15), ((-2147483648), 2147483647)], [], 65, [], [], []))])
def zn_X3_give : List zf_X := [(0, 1, .aload_n 0, []), (1, 1, .iload_n 1, []), (2, 3, .invokevirtual 37, [0]), (5, 3, .ifCond .eq 22, []), (8, 1, .aload_n 0, []), (9, 3, .getfield 9, []), (12, 1, .iload_n 1, []), (13, 1, .iload_n 2, []), (14, 1, .iastore, []), (15, 1, .aload_n 0, []), (16, 3, .getfield 24, []), (19, 1, .iload_n 1, []), (20, 1, .dup2, []), (21, 1, .iaload, []), (22, 1, .iconst 1, []), (23, 1, .iload_n 2, []), (24, 1, .ishl, []), (25, 1, .ior, []), (26, 1, .iastore, []), (27, 1, .return_, [])]
def zu_X3_give : List zf_U := []
set_option maxRecDepth 100000 in
set_option maxHeartbeats 4000000 in
theorem kc_X3_give (l : Launch) (D : va_G) (k : Nat → ClassId) (B0 : Nat) (ad : Nat → Nat) (al sw : Nat) : zf_Con l yX3_give (zw yX3_give cX3_give 3 none) ({ frames := 1, cells := 0, slots := 0, locals := 21 }) D k (zEx B0 ad al sw) zGT 37 zm_X3_give := by
  have hEx := zEx_ok B0 ad al sw
  refine zf_mk (cc := cX3_give) (nL := 3) (ret := none) (Ms := [zm_X3_has]) (fg := [(9, 1, 1, .inl (0, 0)), (24, 1, 5, .inl (0, 0))]) (fp := []) (ins := zn_X3_give) (cuts := zu_X3_give) (fuel := 3000) (by decide) rfl hEx (by decide +kernel) (by decide +kernel) (by decide +kernel) (by decide +kernel) ?_
  intro p e s m args below meth c Q Sg w0 A θ0 S hK hE hAB hA hone hsing
  refine ⟨?_, ?_, ?_⟩
  · exact zf_ac ((fun H locs ws a q0 fs v rest pc ls hP he hv hdg kk => va_get (D := D) (ci := 1) (C := RX3) (T := TX3) (N := 6) (own := RX3) S.1 S.2.1 S.2.2.2.2 (zg_in inW_X3) S.2.2.2.1 hK hP q0 he rfl 1 (by decide) (S.2.2.2.2 (.fieldLink RX3 9 "RungMoney$Ladders" "owners" "[I") (List.mem_cons_of_mem _ zw_231)) (fun _ h9 => h9) hv hdg kk)) (zf_ac ((fun H locs ws a q0 fs v rest pc ls hP he hv hdg kk => va_get (D := D) (ci := 1) (C := RX3) (T := TX3) (N := 6) (own := RX3) S.1 S.2.1 S.2.2.2.2 (zg_in inW_X3) S.2.2.2.1 hK hP q0 he rfl 5 (by decide) (S.2.2.2.2 (.fieldLink RX3 24 "RungMoney$Ladders" "hands" "[I") (List.mem_cons_of_mem _ zw_235)) (fun _ h9 => h9) hv hdg kk)) zf_an)
  · exact zf_an
  · exact zf_crl (xs := [(.invokevirtual 37, 3, 0)]) (by decide +kernel) (zf_ac (zf_crV S hEx hE hAB hA hK hone hsing (kc_X3_has l D k B0 ad al sw) (cwV 1 S.2.2.2.2 (zg_V zw_645 zw_646 zw_647 zw_100 zw_648) rfl rfl rfl (by decide +kernel) ⟨(Nat.le_of_ble_eq_true rfl), (Nat.le_of_ble_eq_true rfl)⟩) ⟨(Nat.le_of_ble_eq_true rfl), (Nat.le_of_ble_eq_true rfl)⟩ 1 rfl rfl (ar := [.inl ([(0, 1)], 0)]) rfl rfl (by decide +kernel)) zf_an)
def zm_X3_shorten : zf_M := (([(0, 15), ((-2147483648), 2147483647)], [], 65, [], [.inl ([(1, 1)], 0), .inl ([(0, 1)], 0), .inr (some (66, 64))], []), [(68, ([(0, 1)], 0), ([(0, 1)], 0)), (69, ([(0, 1)], 0), ([(0, 1)], 0)), (70, ([(0, 1)], 0), ([(0, 1)], 0))], [(none, ([(0, 15), ((-2147483648), 2147483647)], [], 65, [], [], []))])
def zn_X3_shorten : List zf_X := [(0, 1, .iconst 1, []), (1, 1, .iload_n 2, []), (2, 1, .ishl, []), (3, 1, .iconst 1, []), (4, 1, .isub, []), (5, 1, .istore_n 3, []), (6, 1, .aload_n 0, []), (7, 3, .getfield 15, []), (10, 1, .iload_n 1, []), (11, 1, .iload_n 2, []), (12, 1, .iastore, []), (13, 1, .aload_n 0, []), (14, 3, .getfield 18, []), (17, 1, .iload_n 1, []), (18, 1, .dup2, []), (19, 1, .iaload, []), (20, 1, .iload_n 3, []), (21, 1, .iand, []), (22, 1, .iastore, []), (23, 1, .aload_n 0, []), (24, 3, .getfield 21, []), (27, 1, .iload_n 1, []), (28, 1, .dup2, []), (29, 1, .iaload, []), (30, 1, .iload_n 3, []), (31, 1, .iand, []), (32, 1, .iastore, []), (33, 1, .return_, [])]
def zu_X3_shorten : List zf_U := []
set_option maxRecDepth 100000 in
set_option maxHeartbeats 4000000 in
theorem kc_X3_shorten (l : Launch) (D : va_G) (k : Nat → ClassId) (B0 : Nat) (ad : Nat → Nat) (al sw : Nat) : zf_Con l yX3_shorten (zw yX3_shorten cX3_shorten 4 none) ({ frames := 0, cells := 0, slots := 0, locals := 0 }) D k (zEx B0 ad al sw) zGT 37 zm_X3_shorten := by
  have hEx := zEx_ok B0 ad al sw
  refine zf_mk (cc := cX3_shorten) (nL := 4) (ret := none) (Ms := []) (fg := [(15, 1, 2, .inl (0, 0)), (18, 1, 3, .inl (0, 0)), (21, 1, 4, .inl (0, 0))]) (fp := []) (ins := zn_X3_shorten) (cuts := zu_X3_shorten) (fuel := 3000) (by decide) rfl hEx (by decide +kernel) (by decide +kernel) (by decide +kernel) (by decide +kernel) ?_
  intro p e s m args below meth c Q Sg w0 A θ0 S hK hE hAB hA hone hsing
  refine ⟨?_, ?_, ?_⟩
  · exact zf_ac ((fun H locs ws a q0 fs v rest pc ls hP he hv hdg kk => va_get (D := D) (ci := 1) (C := RX3) (T := TX3) (N := 6) (own := RX3) S.1 S.2.1 S.2.2.2.2 (zg_in inW_X3) S.2.2.2.1 hK hP q0 he rfl 2 (by decide) (S.2.2.2.2 (.fieldLink RX3 15 "RungMoney$Ladders" "lengths" "[I") (List.mem_cons_of_mem _ zw_232)) (fun _ h9 => h9) hv hdg kk)) (zf_ac ((fun H locs ws a q0 fs v rest pc ls hP he hv hdg kk => va_get (D := D) (ci := 1) (C := RX3) (T := TX3) (N := 6) (own := RX3) S.1 S.2.1 S.2.2.2.2 (zg_in inW_X3) S.2.2.2.1 hK hP q0 he rfl 3 (by decide) (S.2.2.2.2 (.fieldLink RX3 18 "RungMoney$Ladders" "sounds" "[I") (List.mem_cons_of_mem _ zw_233)) (fun _ h9 => h9) hv hdg kk)) (zf_ac ((fun H locs ws a q0 fs v rest pc ls hP he hv hdg kk => va_get (D := D) (ci := 1) (C := RX3) (T := TX3) (N := 6) (own := RX3) S.1 S.2.1 S.2.2.2.2 (zg_in inW_X3) S.2.2.2.1 hK hP q0 he rfl 4 (by decide) (S.2.2.2.2 (.fieldLink RX3 21 "RungMoney$Ladders" "paints" "[I") (List.mem_cons_of_mem _ zw_234)) (fun _ h9 => h9) hv hdg kk)) zf_an))
  · exact zf_an
  · exact zf_crl (xs := []) (by decide +kernel) (zf_an)
def zm_X3_split : zf_M := (([((-2147483648), 2147483647), ((-2147483648), 2147483647)], [], 65, [], [.inl ([(1, 1)], 0), .inl ([(0, 1)], 0), .inr (some (66, 64))], []), [(67, ([], 0), ([], 15)), (68, ([], 0), ([], 15)), (69, ([], 0), ([], 15)), (70, ([], 0), ([], 15)), (71, ([], 0), ([], 15)), (66, ([], 0), ([], 0))], [(none, ([((-2147483648), (-1)), ((-2147483648), 2147483647)], [], 65, [], [], [])), (none, ([(0, 2147483647), ((-2147483648), 2147483647)], [], 65, [], [], [])), (none, ([(0, 15), ((-2147483648), 2147483647)], [], 65, [], [], []))])
def zn_X3_split : List zf_X := [(0, 1, .aload_n 0, []), (1, 1, .iload_n 1, []), (2, 3, .invokevirtual 37, [0]), (5, 3, .ifCond .eq 49, []), (8, 1, .aload_n 0, []), (9, 1, .aload_n 0, []), (10, 3, .getfield 9, []), (13, 1, .iload_n 1, []), (14, 1, .iaload, []), (15, 1, .aload_n 0, []), (16, 3, .getfield 15, []), (19, 1, .iload_n 1, []), (20, 1, .iaload, []), (21, 1, .iload_n 2, []), (22, 1, .isub, []), (23, 1, .aload_n 0, []), (24, 3, .getfield 18, []), (27, 1, .iload_n 1, []), (28, 1, .iaload, []), (29, 1, .iload_n 2, []), (30, 1, .iushr, []), (31, 1, .aload_n 0, []), (32, 3, .getfield 21, []), (35, 1, .iload_n 1, []), (36, 1, .iaload, []), (37, 1, .iload_n 2, []), (38, 1, .iushr, []), (39, 1, .aload_n 0, []), (40, 3, .getfield 24, []), (43, 1, .iload_n 1, []), (44, 1, .iaload, []), (45, 3, .invokevirtual 78, [1]), (48, 1, .aload_n 0, []), (49, 1, .iload_n 1, []), (50, 1, .iload_n 2, []), (51, 3, .invokevirtual 82, [2]), (54, 1, .return_, [])]
def zu_X3_split : List zf_U := []
theorem zw_571 : (Jvm.Cond.code yX3_add cX3_add 6 none) ∈ lw_g := lw_t2 rfl (List.mem_of_getElem? (i := 237) rfl)
theorem zw_778 : (Jvm.Cond.methodLink RX3 78 yX3_add) ∈ lw_g := lw_t3 rfl (List.mem_of_getElem? (i := 204) rfl)
theorem zw_569 : (Jvm.Cond.instanceMethod yX3_add) ∈ lw_g := lw_t2 rfl (List.mem_of_getElem? (i := 235) rfl)
theorem zw_570 : (Jvm.Cond.selects RX3 yX3_add yX3_add) ∈ lw_g := lw_t2 rfl (List.mem_of_getElem? (i := 236) rfl)
theorem zw_782 : (Jvm.Cond.code yX3_shorten cX3_shorten 4 none) ∈ lw_g := lw_t3 rfl (List.mem_of_getElem? (i := 208) rfl)
theorem zw_779 : (Jvm.Cond.methodLink RX3 82 yX3_shorten) ∈ lw_g := lw_t3 rfl (List.mem_of_getElem? (i := 205) rfl)
theorem zw_781 : (Jvm.Cond.instanceMethod yX3_shorten) ∈ lw_g := lw_t3 rfl (List.mem_of_getElem? (i := 207) rfl)
theorem zw_9 : (Jvm.Cond.selects RX3 yX3_shorten yX3_shorten) ∈ lw_g := lw_s rfl (List.mem_of_getElem? (i := 9) rfl)
set_option maxRecDepth 100000 in
set_option maxHeartbeats 4000000 in
theorem kc_X3_split (l : Launch) (D : va_G) (k : Nat → ClassId) (B0 : Nat) (ad : Nat → Nat) (al sw : Nat) : zf_Con l yX3_split (zw yX3_split cX3_split 3 none) ({ frames := 1, cells := 0, slots := 0, locals := 25 }) D k (zEx B0 ad al sw) zGT 37 zm_X3_split := by
  have hEx := zEx_ok B0 ad al sw
  refine zf_mk (cc := cX3_split) (nL := 3) (ret := none) (Ms := [zm_X3_has, zm_X3_add, zm_X3_shorten]) (fg := [(9, 1, 1, .inl (0, 0)), (15, 1, 2, .inl (0, 0)), (18, 1, 3, .inl (0, 0)), (21, 1, 4, .inl (0, 0)), (24, 1, 5, .inl (0, 0))]) (fp := []) (ins := zn_X3_split) (cuts := zu_X3_split) (fuel := 3000) (by decide) rfl hEx (by decide +kernel) (by decide +kernel) (by decide +kernel) (by decide +kernel) ?_
  intro p e s m args below meth c Q Sg w0 A θ0 S hK hE hAB hA hone hsing
  refine ⟨?_, ?_, ?_⟩
  · exact zf_ac ((fun H locs ws a q0 fs v rest pc ls hP he hv hdg kk => va_get (D := D) (ci := 1) (C := RX3) (T := TX3) (N := 6) (own := RX3) S.1 S.2.1 S.2.2.2.2 (zg_in inW_X3) S.2.2.2.1 hK hP q0 he rfl 1 (by decide) (S.2.2.2.2 (.fieldLink RX3 9 "RungMoney$Ladders" "owners" "[I") (List.mem_cons_of_mem _ zw_231)) (fun _ h9 => h9) hv hdg kk)) (zf_ac ((fun H locs ws a q0 fs v rest pc ls hP he hv hdg kk => va_get (D := D) (ci := 1) (C := RX3) (T := TX3) (N := 6) (own := RX3) S.1 S.2.1 S.2.2.2.2 (zg_in inW_X3) S.2.2.2.1 hK hP q0 he rfl 2 (by decide) (S.2.2.2.2 (.fieldLink RX3 15 "RungMoney$Ladders" "lengths" "[I") (List.mem_cons_of_mem _ zw_232)) (fun _ h9 => h9) hv hdg kk)) (zf_ac ((fun H locs ws a q0 fs v rest pc ls hP he hv hdg kk => va_get (D := D) (ci := 1) (C := RX3) (T := TX3) (N := 6) (own := RX3) S.1 S.2.1 S.2.2.2.2 (zg_in inW_X3) S.2.2.2.1 hK hP q0 he rfl 3 (by decide) (S.2.2.2.2 (.fieldLink RX3 18 "RungMoney$Ladders" "sounds" "[I") (List.mem_cons_of_mem _ zw_233)) (fun _ h9 => h9) hv hdg kk)) (zf_ac ((fun H locs ws a q0 fs v rest pc ls hP he hv hdg kk => va_get (D := D) (ci := 1) (C := RX3) (T := TX3) (N := 6) (own := RX3) S.1 S.2.1 S.2.2.2.2 (zg_in inW_X3) S.2.2.2.1 hK hP q0 he rfl 4 (by decide) (S.2.2.2.2 (.fieldLink RX3 21 "RungMoney$Ladders" "paints" "[I") (List.mem_cons_of_mem _ zw_234)) (fun _ h9 => h9) hv hdg kk)) (zf_ac ((fun H locs ws a q0 fs v rest pc ls hP he hv hdg kk => va_get (D := D) (ci := 1) (C := RX3) (T := TX3) (N := 6) (own := RX3) S.1 S.2.1 S.2.2.2.2 (zg_in inW_X3) S.2.2.2.1 hK hP q0 he rfl 5 (by decide) (S.2.2.2.2 (.fieldLink RX3 24 "RungMoney$Ladders" "hands" "[I") (List.mem_cons_of_mem _ zw_235)) (fun _ h9 => h9) hv hdg kk)) zf_an))))
  · exact zf_an
  · exact zf_crl (xs := [(.invokevirtual 37, 3, 0), (.invokevirtual 78, 3, 1), (.invokevirtual 82, 3, 2)]) (by decide +kernel) (zf_ac (zf_crV S hEx hE hAB hA hK hone hsing (kc_X3_has l D k B0 ad al sw) (cwV 1 S.2.2.2.2 (zg_V zw_645 zw_646 zw_647 zw_100 zw_648) rfl rfl rfl (by decide +kernel) ⟨(Nat.le_of_ble_eq_true rfl), (Nat.le_of_ble_eq_true rfl)⟩) ⟨(Nat.le_of_ble_eq_true rfl), (Nat.le_of_ble_eq_true rfl)⟩ 1 rfl rfl (ar := [.inl ([(0, 1)], 0)]) rfl rfl (by decide +kernel)) (zf_ac (zf_crV S hEx hE hAB hA hK hone hsing (kc_X3_add l D k B0 ad al sw) (cwV 5 S.2.2.2.2 (zg_V zw_778 zw_569 zw_570 zw_100 zw_571) rfl rfl rfl (by decide +kernel) ⟨(Nat.le_of_ble_eq_true rfl), (Nat.le_of_ble_eq_true rfl)⟩) ⟨(Nat.le_of_ble_eq_true rfl), (Nat.le_of_ble_eq_true rfl)⟩ 1 rfl rfl (ar := [.inl ([(4, 1)], 0), .inl ([(3, 1)], 0), .inl ([(2, 1)], 0), .inl ([(1, 1)], 0), .inl ([(0, 1)], 0)]) rfl rfl (by decide +kernel)) (zf_ac (zf_crV S hEx hE hAB hA hK hone hsing (kc_X3_shorten l D k B0 ad al sw) (cwV 2 S.2.2.2.2 (zg_V zw_779 zw_781 zw_9 zw_100 zw_782) rfl rfl rfl (by decide +kernel) ⟨(Nat.le_of_ble_eq_true rfl), (Nat.le_of_ble_eq_true rfl)⟩) ⟨(Nat.le_of_ble_eq_true rfl), (Nat.le_of_ble_eq_true rfl)⟩ 1 rfl rfl (ar := [.inl ([(1, 1)], 0), .inl ([(0, 1)], 0)]) rfl rfl (by decide +kernel)) zf_an)))
def zm_X3_join : zf_M := (([((-2147483648), 2147483647), ((-2147483648), 2147483647)], [], 65, [], [.inl ([(1, 1)], 0), .inl ([(0, 1)], 0), .inr (some (66, 64))], []), [(69, ([], 0), ([], 15)), (70, ([], 0), ([], 15)), (68, ([], 0), ([], 15)), (71, ([], 0), ([], 15)), (67, ([], 0), ([], 15))], [(none, ([((-2147483648), 2147483647), ((-2147483648), 2147483647)], [], 65, [], [], []))])
def zn_X3_join : List zf_X := [(0, 1, .aload_n 0, []), (1, 1, .iload_n 1, []), (2, 3, .invokevirtual 37, [0]), (5, 3, .ifCond .eq 90, []), (8, 1, .aload_n 0, []), (9, 1, .iload_n 2, []), (10, 3, .invokevirtual 37, [0]), (13, 3, .ifCond .eq 82, []), (16, 1, .aload_n 0, []), (17, 3, .getfield 18, []), (20, 1, .iload_n 1, []), (21, 1, .dup2, []), (22, 1, .iaload, []), (23, 1, .aload_n 0, []), (24, 3, .getfield 18, []), (27, 1, .iload_n 2, []), (28, 1, .iaload, []), (29, 1, .aload_n 0, []), (30, 3, .getfield 15, []), (33, 1, .iload_n 1, []), (34, 1, .iaload, []), (35, 1, .ishl, []), (36, 1, .ior, []), (37, 1, .iastore, []), (38, 1, .aload_n 0, []), (39, 3, .getfield 21, []), (42, 1, .iload_n 1, []), (43, 1, .dup2, []), (44, 1, .iaload, []), (45, 1, .aload_n 0, []), (46, 3, .getfield 21, []), (49, 1, .iload_n 2, []), (50, 1, .iaload, []), (51, 1, .aload_n 0, []), (52, 3, .getfield 15, []), (55, 1, .iload_n 1, []), (56, 1, .iaload, []), (57, 1, .ishl, []), (58, 1, .ior, []), (59, 1, .iastore, []), (60, 1, .aload_n 0, []), (61, 3, .getfield 15, []), (64, 1, .iload_n 1, []), (65, 1, .dup2, []), (66, 1, .iaload, []), (67, 1, .aload_n 0, []), (68, 3, .getfield 15, []), (71, 1, .iload_n 2, []), (72, 1, .iaload, []), (73, 1, .iadd, []), (74, 1, .iastore, []), (75, 1, .aload_n 0, []), (76, 3, .getfield 24, []), (79, 1, .iload_n 1, []), (80, 1, .dup2, []), (81, 1, .iaload, []), (82, 1, .aload_n 0, []), (83, 3, .getfield 24, []), (86, 1, .iload_n 2, []), (87, 1, .iaload, []), (88, 1, .ior, []), (89, 1, .iastore, []), (90, 1, .aload_n 0, []), (91, 1, .iload_n 2, []), (92, 3, .invokevirtual 86, [1]), (95, 1, .return_, [])]
def zu_X3_join : List zf_U := []
theorem zw_798 : (Jvm.Cond.code yX3_vanish cX3_vanish 2 none) ∈ lw_g := lw_t3 rfl (List.mem_of_getElem? (i := 224) rfl)
theorem zw_795 : (Jvm.Cond.methodLink RX3 86 yX3_vanish) ∈ lw_g := lw_t3 rfl (List.mem_of_getElem? (i := 221) rfl)
theorem zw_796 : (Jvm.Cond.instanceMethod yX3_vanish) ∈ lw_g := lw_t3 rfl (List.mem_of_getElem? (i := 222) rfl)
theorem zw_797 : (Jvm.Cond.selects RX3 yX3_vanish yX3_vanish) ∈ lw_g := lw_t3 rfl (List.mem_of_getElem? (i := 223) rfl)
set_option maxRecDepth 100000 in
set_option maxHeartbeats 4000000 in
theorem kc_X3_join (l : Launch) (D : va_G) (k : Nat → ClassId) (B0 : Nat) (ad : Nat → Nat) (al sw : Nat) : zf_Con l yX3_join (zw yX3_join cX3_join 3 none) ({ frames := 2, cells := 0, slots := 0, locals := 42 }) D k (zEx B0 ad al sw) zGT 37 zm_X3_join := by
  have hEx := zEx_ok B0 ad al sw
  refine zf_mk (cc := cX3_join) (nL := 3) (ret := none) (Ms := [zm_X3_has, zm_X3_vanish]) (fg := [(15, 1, 2, .inl (0, 0)), (18, 1, 3, .inl (0, 0)), (21, 1, 4, .inl (0, 0)), (24, 1, 5, .inl (0, 0))]) (fp := []) (ins := zn_X3_join) (cuts := zu_X3_join) (fuel := 3000) (by decide) rfl hEx (by decide +kernel) (by decide +kernel) (by decide +kernel) (by decide +kernel) ?_
  intro p e s m args below meth c Q Sg w0 A θ0 S hK hE hAB hA hone hsing
  refine ⟨?_, ?_, ?_⟩
  · exact zf_ac ((fun H locs ws a q0 fs v rest pc ls hP he hv hdg kk => va_get (D := D) (ci := 1) (C := RX3) (T := TX3) (N := 6) (own := RX3) S.1 S.2.1 S.2.2.2.2 (zg_in inW_X3) S.2.2.2.1 hK hP q0 he rfl 2 (by decide) (S.2.2.2.2 (.fieldLink RX3 15 "RungMoney$Ladders" "lengths" "[I") (List.mem_cons_of_mem _ zw_232)) (fun _ h9 => h9) hv hdg kk)) (zf_ac ((fun H locs ws a q0 fs v rest pc ls hP he hv hdg kk => va_get (D := D) (ci := 1) (C := RX3) (T := TX3) (N := 6) (own := RX3) S.1 S.2.1 S.2.2.2.2 (zg_in inW_X3) S.2.2.2.1 hK hP q0 he rfl 3 (by decide) (S.2.2.2.2 (.fieldLink RX3 18 "RungMoney$Ladders" "sounds" "[I") (List.mem_cons_of_mem _ zw_233)) (fun _ h9 => h9) hv hdg kk)) (zf_ac ((fun H locs ws a q0 fs v rest pc ls hP he hv hdg kk => va_get (D := D) (ci := 1) (C := RX3) (T := TX3) (N := 6) (own := RX3) S.1 S.2.1 S.2.2.2.2 (zg_in inW_X3) S.2.2.2.1 hK hP q0 he rfl 4 (by decide) (S.2.2.2.2 (.fieldLink RX3 21 "RungMoney$Ladders" "paints" "[I") (List.mem_cons_of_mem _ zw_234)) (fun _ h9 => h9) hv hdg kk)) (zf_ac ((fun H locs ws a q0 fs v rest pc ls hP he hv hdg kk => va_get (D := D) (ci := 1) (C := RX3) (T := TX3) (N := 6) (own := RX3) S.1 S.2.1 S.2.2.2.2 (zg_in inW_X3) S.2.2.2.1 hK hP q0 he rfl 5 (by decide) (S.2.2.2.2 (.fieldLink RX3 24 "RungMoney$Ladders" "hands" "[I") (List.mem_cons_of_mem _ zw_235)) (fun _ h9 => h9) hv hdg kk)) zf_an)))
  · exact zf_an
  · exact zf_crl (xs := [(.invokevirtual 37, 3, 0), (.invokevirtual 86, 3, 1)]) (by decide +kernel) (zf_ac (zf_crV S hEx hE hAB hA hK hone hsing (kc_X3_has l D k B0 ad al sw) (cwV 1 S.2.2.2.2 (zg_V zw_645 zw_646 zw_647 zw_100 zw_648) rfl rfl rfl (by decide +kernel) ⟨(Nat.le_of_ble_eq_true rfl), (Nat.le_of_ble_eq_true rfl)⟩) ⟨(Nat.le_of_ble_eq_true rfl), (Nat.le_of_ble_eq_true rfl)⟩ 1 rfl rfl (ar := [.inl ([(0, 1)], 0)]) rfl rfl (by decide +kernel)) (zf_ac (zf_crV S hEx hE hAB hA hK hone hsing (kc_X3_vanish l D k B0 ad al sw) (cwV 1 S.2.2.2.2 (zg_V zw_795 zw_796 zw_797 zw_100 zw_798) rfl rfl rfl (by decide +kernel) ⟨(Nat.le_of_ble_eq_true rfl), (Nat.le_of_ble_eq_true rfl)⟩) ⟨(Nat.le_of_ble_eq_true rfl), (Nat.le_of_ble_eq_true rfl)⟩ 1 rfl rfl (ar := [.inl ([(0, 1)], 0)]) rfl rfl (by decide +kernel)) zf_an))
def zm_X3_loseTop : zf_M := (([((-2147483648), 2147483647)], [], 65, [], [.inl ([(0, 1)], 0), .inr (some (66, 64))], []), [(68, ([], 0), ([], 15)), (69, ([], 0), ([], 15)), (70, ([], 0), ([], 15)), (67, ([], 0), ([], 15))], [(none, ([((-2147483648), (-1))], [], 65, [], [], [])), (none, ([(0, 2147483647)], [], 65, [], [], [])), (none, ([(0, 15)], [], 65, [], [], []))])
def zn_X3_loseTop : List zf_X := [(0, 1, .aload_n 0, []), (1, 1, .iload_n 1, []), (2, 3, .invokevirtual 37, [0]), (5, 3, .ifCond .eq 34, []), (8, 1, .aload_n 0, []), (9, 3, .getfield 15, []), (12, 1, .iload_n 1, []), (13, 1, .iaload, []), (14, 1, .iconst 1, []), (15, 3, .if_icmp .le 19, []), (18, 1, .aload_n 0, []), (19, 1, .iload_n 1, []), (20, 1, .aload_n 0, []), (21, 3, .getfield 15, []), (24, 1, .iload_n 1, []), (25, 1, .iaload, []), (26, 1, .iconst 1, []), (27, 1, .isub, []), (28, 3, .invokevirtual 82, [1]), (31, 3, .goto 8, []), (34, 1, .aload_n 0, []), (35, 1, .iload_n 1, []), (36, 3, .invokevirtual 86, [2]), (39, 1, .return_, [])]
def zu_X3_loseTop : List zf_U := []
set_option maxRecDepth 100000 in
set_option maxHeartbeats 4000000 in
theorem kc_X3_loseTop (l : Launch) (D : va_G) (k : Nat → ClassId) (B0 : Nat) (ad : Nat → Nat) (al sw : Nat) : zf_Con l yX3_loseTop (zw yX3_loseTop cX3_loseTop 2 none) ({ frames := 2, cells := 0, slots := 0, locals := 42 }) D k (zEx B0 ad al sw) zGT 37 zm_X3_loseTop := by
  have hEx := zEx_ok B0 ad al sw
  refine zf_mk (cc := cX3_loseTop) (nL := 2) (ret := none) (Ms := [zm_X3_has, zm_X3_shorten, zm_X3_vanish]) (fg := [(15, 1, 2, .inl (0, 0))]) (fp := []) (ins := zn_X3_loseTop) (cuts := zu_X3_loseTop) (fuel := 3000) (by decide) rfl hEx (by decide +kernel) (by decide +kernel) (by decide +kernel) (by decide +kernel) ?_
  intro p e s m args below meth c Q Sg w0 A θ0 S hK hE hAB hA hone hsing
  refine ⟨?_, ?_, ?_⟩
  · exact zf_ac ((fun H locs ws a q0 fs v rest pc ls hP he hv hdg kk => va_get (D := D) (ci := 1) (C := RX3) (T := TX3) (N := 6) (own := RX3) S.1 S.2.1 S.2.2.2.2 (zg_in inW_X3) S.2.2.2.1 hK hP q0 he rfl 2 (by decide) (S.2.2.2.2 (.fieldLink RX3 15 "RungMoney$Ladders" "lengths" "[I") (List.mem_cons_of_mem _ zw_232)) (fun _ h9 => h9) hv hdg kk)) zf_an
  · exact zf_an
  · exact zf_crl (xs := [(.invokevirtual 37, 3, 0), (.invokevirtual 82, 3, 1), (.invokevirtual 86, 3, 2)]) (by decide +kernel) (zf_ac (zf_crV S hEx hE hAB hA hK hone hsing (kc_X3_has l D k B0 ad al sw) (cwV 1 S.2.2.2.2 (zg_V zw_645 zw_646 zw_647 zw_100 zw_648) rfl rfl rfl (by decide +kernel) ⟨(Nat.le_of_ble_eq_true rfl), (Nat.le_of_ble_eq_true rfl)⟩) ⟨(Nat.le_of_ble_eq_true rfl), (Nat.le_of_ble_eq_true rfl)⟩ 1 rfl rfl (ar := [.inl ([(0, 1)], 0)]) rfl rfl (by decide +kernel)) (zf_ac (zf_crV S hEx hE hAB hA hK hone hsing (kc_X3_shorten l D k B0 ad al sw) (cwV 2 S.2.2.2.2 (zg_V zw_779 zw_781 zw_9 zw_100 zw_782) rfl rfl rfl (by decide +kernel) ⟨(Nat.le_of_ble_eq_true rfl), (Nat.le_of_ble_eq_true rfl)⟩) ⟨(Nat.le_of_ble_eq_true rfl), (Nat.le_of_ble_eq_true rfl)⟩ 1 rfl rfl (ar := [.inl ([(1, 1)], 0), .inl ([(0, 1)], 0)]) rfl rfl (by decide +kernel)) (zf_ac (zf_crV S hEx hE hAB hA hK hone hsing (kc_X3_vanish l D k B0 ad al sw) (cwV 1 S.2.2.2.2 (zg_V zw_795 zw_796 zw_797 zw_100 zw_798) rfl rfl rfl (by decide +kernel) ⟨(Nat.le_of_ble_eq_true rfl), (Nat.le_of_ble_eq_true rfl)⟩) ⟨(Nat.le_of_ble_eq_true rfl), (Nat.le_of_ble_eq_true rfl)⟩ 1 rfl rfl (ar := [.inl ([(0, 1)], 0)]) rfl rfl (by decide +kernel)) zf_an)))
def zm_X3_putPaint : zf_M := (([((-2147483648), 2147483647), ((-2147483648), 2147483647)], [], 65, [], [.inl ([(1, 1)], 0), .inl ([(0, 1)], 0), .inr (some (66, 64))], []), [(70, ([], 0), ([], 15))], [(none, ([((-2147483648), (-1)), ((-2147483648), 2147483647)], [], 65, [], [], [])), (none, ([(0, 2147483647), ((-2147483648), 2147483647)], [], 65, [], [], [])), (none, ([(0, 15), ((-2147483648), 2147483647)], [], 65, [], [], []))])
def zn_X3_putPaint : List zf_X := [(0, 1, .aload_n 0, []), (1, 1, .iload_n 1, []), (2, 3, .invokevirtual 37, [0]), (5, 3, .ifCond .eq 15, []), (8, 1, .aload_n 0, []), (9, 3, .getfield 21, []), (12, 1, .iload_n 1, []), (13, 1, .dup2, []), (14, 1, .iaload, []), (15, 1, .iconst 1, []), (16, 1, .iload_n 2, []), (17, 1, .ishl, []), (18, 1, .ior, []), (19, 1, .iastore, []), (20, 1, .return_, [])]
def zu_X3_putPaint : List zf_U := []
set_option maxRecDepth 100000 in
set_option maxHeartbeats 4000000 in
theorem kc_X3_putPaint (l : Launch) (D : va_G) (k : Nat → ClassId) (B0 : Nat) (ad : Nat → Nat) (al sw : Nat) : zf_Con l yX3_putPaint (zw yX3_putPaint cX3_putPaint 3 none) ({ frames := 1, cells := 0, slots := 0, locals := 21 }) D k (zEx B0 ad al sw) zGT 37 zm_X3_putPaint := by
  have hEx := zEx_ok B0 ad al sw
  refine zf_mk (cc := cX3_putPaint) (nL := 3) (ret := none) (Ms := [zm_X3_has]) (fg := [(21, 1, 4, .inl (0, 0))]) (fp := []) (ins := zn_X3_putPaint) (cuts := zu_X3_putPaint) (fuel := 3000) (by decide) rfl hEx (by decide +kernel) (by decide +kernel) (by decide +kernel) (by decide +kernel) ?_
  intro p e s m args below meth c Q Sg w0 A θ0 S hK hE hAB hA hone hsing
  refine ⟨?_, ?_, ?_⟩
  · exact zf_ac ((fun H locs ws a q0 fs v rest pc ls hP he hv hdg kk => va_get (D := D) (ci := 1) (C := RX3) (T := TX3) (N := 6) (own := RX3) S.1 S.2.1 S.2.2.2.2 (zg_in inW_X3) S.2.2.2.1 hK hP q0 he rfl 4 (by decide) (S.2.2.2.2 (.fieldLink RX3 21 "RungMoney$Ladders" "paints" "[I") (List.mem_cons_of_mem _ zw_234)) (fun _ h9 => h9) hv hdg kk)) zf_an
  · exact zf_an
  · exact zf_crl (xs := [(.invokevirtual 37, 3, 0)]) (by decide +kernel) (zf_ac (zf_crV S hEx hE hAB hA hK hone hsing (kc_X3_has l D k B0 ad al sw) (cwV 1 S.2.2.2.2 (zg_V zw_645 zw_646 zw_647 zw_100 zw_648) rfl rfl rfl (by decide +kernel) ⟨(Nat.le_of_ble_eq_true rfl), (Nat.le_of_ble_eq_true rfl)⟩) ⟨(Nat.le_of_ble_eq_true rfl), (Nat.le_of_ble_eq_true rfl)⟩ 1 rfl rfl (ar := [.inl ([(0, 1)], 0)]) rfl rfl (by decide +kernel)) zf_an)
def zm_X3_losePaint : zf_M := (([((-2147483648), 2147483647), ((-2147483648), 2147483647)], [], 65, [], [.inl ([(1, 1)], 0), .inl ([(0, 1)], 0), .inr (some (66, 64))], []), [(70, ([], 0), ([], 15))], [(none, ([((-2147483648), (-1)), ((-2147483648), 2147483647)], [], 65, [], [], [])), (none, ([(0, 2147483647), ((-2147483648), 2147483647)], [], 65, [], [], [])), (none, ([(0, 15), ((-2147483648), 2147483647)], [], 65, [], [], []))])
def zn_X3_losePaint : List zf_X := [(0, 1, .aload_n 0, []), (1, 1, .iload_n 1, []), (2, 3, .invokevirtual 37, [0]), (5, 3, .ifCond .eq 17, []), (8, 1, .aload_n 0, []), (9, 3, .getfield 21, []), (12, 1, .iload_n 1, []), (13, 1, .dup2, []), (14, 1, .iaload, []), (15, 1, .iconst 1, []), (16, 1, .iload_n 2, []), (17, 1, .ishl, []), (18, 1, .iconst (-1), []), (19, 1, .ixor, []), (20, 1, .iand, []), (21, 1, .iastore, []), (22, 1, .return_, [])]
def zu_X3_losePaint : List zf_U := []
set_option maxRecDepth 100000 in
set_option maxHeartbeats 4000000 in
theorem kc_X3_losePaint (l : Launch) (D : va_G) (k : Nat → ClassId) (B0 : Nat) (ad : Nat → Nat) (al sw : Nat) : zf_Con l yX3_losePaint (zw yX3_losePaint cX3_losePaint 3 none) ({ frames := 1, cells := 0, slots := 0, locals := 21 }) D k (zEx B0 ad al sw) zGT 37 zm_X3_losePaint := by
  have hEx := zEx_ok B0 ad al sw
  refine zf_mk (cc := cX3_losePaint) (nL := 3) (ret := none) (Ms := [zm_X3_has]) (fg := [(21, 1, 4, .inl (0, 0))]) (fp := []) (ins := zn_X3_losePaint) (cuts := zu_X3_losePaint) (fuel := 3000) (by decide) rfl hEx (by decide +kernel) (by decide +kernel) (by decide +kernel) (by decide +kernel) ?_
  intro p e s m args below meth c Q Sg w0 A θ0 S hK hE hAB hA hone hsing
  refine ⟨?_, ?_, ?_⟩
  · exact zf_ac ((fun H locs ws a q0 fs v rest pc ls hP he hv hdg kk => va_get (D := D) (ci := 1) (C := RX3) (T := TX3) (N := 6) (own := RX3) S.1 S.2.1 S.2.2.2.2 (zg_in inW_X3) S.2.2.2.1 hK hP q0 he rfl 4 (by decide) (S.2.2.2.2 (.fieldLink RX3 21 "RungMoney$Ladders" "paints" "[I") (List.mem_cons_of_mem _ zw_234)) (fun _ h9 => h9) hv hdg kk)) zf_an
  · exact zf_an
  · exact zf_crl (xs := [(.invokevirtual 37, 3, 0)]) (by decide +kernel) (zf_ac (zf_crV S hEx hE hAB hA hK hone hsing (kc_X3_has l D k B0 ad al sw) (cwV 1 S.2.2.2.2 (zg_V zw_645 zw_646 zw_647 zw_100 zw_648) rfl rfl rfl (by decide +kernel) ⟨(Nat.le_of_ble_eq_true rfl), (Nat.le_of_ble_eq_true rfl)⟩) ⟨(Nat.le_of_ble_eq_true rfl), (Nat.le_of_ble_eq_true rfl)⟩ 1 rfl rfl (ar := [.inl ([(0, 1)], 0)]) rfl rfl (by decide +kernel)) zf_an)
def zm_X3_rotBy : zf_M := (([((-2147483648), 2147483647), ((-2147483648), 2147483647)], [], 65, [], [.inl ([(1, 1)], 0), .inl ([(0, 1)], 0), .inr (some (66, 64))], []), [(69, ([], 0), ([], 15))], [(some (.inl ([(2, 1)], 0)), ([((-2147483648), 2147483647), ((-2147483648), 2147483647), ((-2147483648), 2147483647)], [], 65, [], [], []))])
def zn_X3_rotBy : List zf_X := [(0, 1, .iload_n 1, []), (1, 1, .istore_n 3, []), (2, 1, .iconst 0, []), (3, 2, .istore 4, []), (5, 2, .iload 4, []), (7, 1, .aload_n 0, []), (8, 3, .getfield 27, []), (11, 3, .if_icmp .ge 82, []), (14, 1, .iconst 0, []), (15, 2, .istore 5, []), (17, 2, .iload 5, []), (19, 1, .aload_n 0, []), (20, 3, .getfield 15, []), (23, 2, .iload 4, []), (25, 1, .iaload, []), (26, 3, .if_icmp .ge 61, []), (29, 1, .aload_n 0, []), (30, 3, .getfield 18, []), (33, 2, .iload 4, []), (35, 1, .iaload, []), (36, 2, .iload 5, []), (38, 1, .iushr, []), (39, 1, .iconst 1, []), (40, 1, .iand, []), (41, 1, .iconst 1, []), (42, 3, .if_icmp .ne 39, []), (45, 1, .iload_n 3, []), (46, 2, .ldc 90, [0]), (48, 1, .imul, []), (49, 3, .sipush 12345, []), (52, 1, .iadd, []), (53, 1, .istore_n 3, []), (54, 1, .iload_n 3, []), (55, 2, .bipush 8, []), (57, 1, .iushr, []), (58, 2, .bipush 12, []), (60, 1, .irem, []), (61, 1, .iload_n 2, []), (62, 3, .if_icmp .ge 19, []), (65, 1, .aload_n 0, []), (66, 3, .getfield 18, []), (69, 2, .iload 4, []), (71, 1, .dup2, []), (72, 1, .iaload, []), (73, 1, .iconst 1, []), (74, 2, .iload 5, []), (76, 1, .ishl, []), (77, 1, .iconst (-1), []), (78, 1, .ixor, []), (79, 1, .iand, []), (80, 1, .iastore, []), (81, 3, .iinc 5 1, []), (84, 3, .goto (-67), []), (87, 3, .iinc 4 1, []), (90, 3, .goto (-85), []), (93, 1, .iload_n 3, []), (94, 1, .ireturn, [])]
def zu_X3_rotBy : List zf_U := [(5, ([((-2147483648), 2147483647), ((-2147483648), 2147483647), ((-2147483648), 2147483647), (0, 16)], [], 65, [(0, .inr (some (66, 64))), (1, .inl ([(0, 1)], 0)), (2, .inl ([(1, 1)], 0)), (3, .inl ([(2, 1)], 0)), (4, .inl ([(3, 1)], 0))], [], []), ([(3, (-2147483650))], 36507222050), 0),
  (17, ([((-2147483648), 2147483647), ((-2147483648), 2147483647), ((-2147483648), 2147483647), (0, 15), (0, 2147483647), (1, 16)], [], 65, [(0, .inr (some (66, 64))), (1, .inl ([(0, 1)], 0)), (2, .inl ([(1, 1)], 0)), (3, .inl ([(2, 1)], 0)), (4, .inl ([(3, 1)], 0)), (5, .inl ([(4, 1)], 0))], [], [(66, 64, ([], 0), .inl ([(5, 1)], 0))]), ([(3, (-2147483650)), (4, (-1))], 36507222048), 0)]
theorem zw_861 : (Jvm.Cond.constant RX3 90 1103515245) ∈ lw_g := lw_t4 rfl (List.mem_of_getElem? (i := 47) rfl)
set_option maxRecDepth 100000 in
set_option maxHeartbeats 4000000 in
theorem kc_X3_rotBy (l : Launch) (D : va_G) (k : Nat → ClassId) (B0 : Nat) (ad : Nat → Nat) (al sw : Nat) : zf_Con l yX3_rotBy (zw yX3_rotBy cX3_rotBy 6 (some .int)) ({ frames := 0, cells := 0, slots := 0, locals := 0 }) D k (zEx B0 ad al sw) zGT 37 zm_X3_rotBy := by
  have hEx := zEx_ok B0 ad al sw
  refine zf_mk (cc := cX3_rotBy) (nL := 6) (ret := (some .int)) (Ms := [zf_mC 1103515245]) (fg := [(15, 1, 2, .inl (0, 0)), (18, 1, 3, .inl (0, 0)), (27, 1, 0, .inl (0, 0))]) (fp := []) (ins := zn_X3_rotBy) (cuts := zu_X3_rotBy) (fuel := 3000) (by decide) rfl hEx (by decide +kernel) (by decide +kernel) (by decide +kernel) (by decide +kernel) ?_
  intro p e s m args below meth c Q Sg w0 A θ0 S hK hE hAB hA hone hsing
  refine ⟨?_, ?_, ?_⟩
  · exact zf_ac ((fun H locs ws a q0 fs v rest pc ls hP he hv hdg kk => va_get (D := D) (ci := 1) (C := RX3) (T := TX3) (N := 6) (own := RX3) S.1 S.2.1 S.2.2.2.2 (zg_in inW_X3) S.2.2.2.1 hK hP q0 he rfl 2 (by decide) (S.2.2.2.2 (.fieldLink RX3 15 "RungMoney$Ladders" "lengths" "[I") (List.mem_cons_of_mem _ zw_232)) (fun _ h9 => h9) hv hdg kk)) (zf_ac ((fun H locs ws a q0 fs v rest pc ls hP he hv hdg kk => va_get (D := D) (ci := 1) (C := RX3) (T := TX3) (N := 6) (own := RX3) S.1 S.2.1 S.2.2.2.2 (zg_in inW_X3) S.2.2.2.1 hK hP q0 he rfl 3 (by decide) (S.2.2.2.2 (.fieldLink RX3 18 "RungMoney$Ladders" "sounds" "[I") (List.mem_cons_of_mem _ zw_233)) (fun _ h9 => h9) hv hdg kk)) (zf_ac ((fun H locs ws a q0 fs v rest pc ls hP he hv hdg kk => va_get (D := D) (ci := 1) (C := RX3) (T := TX3) (N := 6) (own := RX3) S.1 S.2.1 S.2.2.2.2 (zg_in inW_X3) S.2.2.2.1 hK hP q0 he rfl 0 (by decide) (S.2.2.2.2 (.fieldLink RX3 27 "RungMoney$Ladders" "size" "I") (List.mem_cons_of_mem _ zw_225)) (fun _ h9 => h9) hv hdg kk)) zf_an))
  · exact zf_an
  · exact zf_crl (xs := [(.ldc 90, 2, 0)]) (by decide +kernel) (zf_ac (zf_crldc (own := RX3) S.1 S.2.1 S.2.2.2.1 (v := 1103515245) (S.2.2.2.2 (.constant RX3 90 1103515245) (List.mem_cons_of_mem _ zw_861)) 1103515245 (by decide)) zf_an)
def zm_X9_hasRoom : zf_M := (([(0, 940)], [], 64, [], [.inr (some (1, 1))], [(1, 1, ([], 1), .inl ([(0, 1)], 0))]), [], [(some (.inl ([], 1)), ([(0, 920)], [], 64, [], [], [])), (some (.inl ([], 0)), ([(921, 940)], [], 64, [], [], []))])
def zn_X9_hasRoom : List zf_X := [(0, 1, .aload_n 0, []), (1, 3, .getfield 13, []), (4, 2, .bipush 20, []), (6, 1, .iadd, []), (7, 3, .sipush 940, []), (10, 3, .if_icmp .gt 7, []), (13, 1, .iconst 1, []), (14, 3, .goto 4, []), (17, 1, .iconst 0, []), (18, 1, .ireturn, [])]
def zu_X9_hasRoom : List zf_U := []
set_option maxRecDepth 100000 in
theorem inW_X9 : ∀ w ∈ wsX90, w ∈ lw_g := by decide +kernel
theorem zw_135 : (Jvm.Cond.fieldLink RX9 13 "RungMoney$Tape" "size" "I") ∈ lw_g := lw_t1 rfl (List.mem_of_getElem? (i := 41) rfl)
set_option maxRecDepth 100000 in
set_option maxHeartbeats 4000000 in
theorem kc_X9_hasRoom (l : Launch) (D : va_G) (k : Nat → ClassId) (B0 : Nat) (ad : Nat → Nat) (al sw : Nat) : zf_Con l yX9_hasRoom (zw yX9_hasRoom cX9_hasRoom 1 (some .boolean)) ({ frames := 0, cells := 0, slots := 0, locals := 0 }) D k (zEx B0 ad al sw) zGT 37 zm_X9_hasRoom := by
  have hEx := zEx_ok B0 ad al sw
  refine zf_mk (cc := cX9_hasRoom) (nL := 1) (ret := (some .boolean)) (Ms := []) (fg := [(13, 7, 1, .inl (0, 0))]) (fp := []) (ins := zn_X9_hasRoom) (cuts := zu_X9_hasRoom) (fuel := 3000) (by decide) rfl hEx (by decide +kernel) (by decide +kernel) (by decide +kernel) (by decide +kernel) ?_
  intro p e s m args below meth c Q Sg w0 A θ0 S hK hE hAB hA hone hsing
  refine ⟨?_, ?_, ?_⟩
  · exact zf_ac ((fun H locs ws a q0 fs v rest pc ls hP he hv hdg kk => va_get (D := D) (ci := 7) (C := RX9) (T := TX9) (N := 2) (own := RX9) S.1 S.2.1 S.2.2.2.2 (zg_in inW_X9) S.2.2.2.1 hK hP q0 he rfl 1 (by decide) (S.2.2.2.2 (.fieldLink RX9 13 "RungMoney$Tape" "size" "I") (List.mem_cons_of_mem _ zw_135)) (fun _ h9 => h9) hv hdg kk)) zf_an
  · exact zf_an
  · exact zf_crl (xs := []) (by decide +kernel) (zf_an)
def zm_X9_add : zf_M := (([((-2147483648), 2147483647), (0, 936)], [], 64, [], [.inl ([(0, 1)], 0), .inr (some (1, 1))], [(1, 1, ([], 1), .inl ([(1, 1)], 0))]), [(2, ([(1, 1)], 0), ([(1, 1)], 0)), (1, ([], 1), ([], 1)), (2, ([(1, 1)], 1), ([(1, 1)], 1)), (2, ([(1, 1)], 2), ([(1, 1)], 2)), (2, ([(1, 1)], 3), ([(1, 1)], 3))], [(none, ([((-2147483648), 2147483647), (0, 936)], [], 64, [], [], [(1, 1, ([], 1), .inl ([(1, 1)], 4))]))])
def zn_X9_add : List zf_X := [(0, 2, .bipush 24, []), (2, 1, .istore_n 2, []), (3, 1, .iload_n 2, []), (4, 3, .ifCond .lt 45, []), (7, 1, .aload_n 0, []), (8, 3, .getfield 13, []), (11, 3, .sipush 940, []), (14, 3, .if_icmp .ge 35, []), (17, 1, .aload_n 0, []), (18, 3, .getfield 9, []), (21, 1, .aload_n 0, []), (22, 3, .getfield 13, []), (25, 1, .iload_n 1, []), (26, 1, .iload_n 2, []), (27, 1, .iushr, []), (28, 3, .sipush 255, []), (31, 1, .iand, []), (32, 1, .iastore, []), (33, 1, .aload_n 0, []), (34, 1, .dup, []), (35, 3, .getfield 13, []), (38, 1, .iconst 1, []), (39, 1, .iadd, []), (40, 3, .putfield 13, []), (43, 3, .iinc 2 (-8), []), (46, 3, .goto (-43), []), (49, 1, .return_, [])]
def zu_X9_add : List zf_U := []
theorem zw_132 : (Jvm.Cond.fieldLink RX9 9 "RungMoney$Tape" "bytes" "[I") ∈ lw_g := lw_t1 rfl (List.mem_of_getElem? (i := 38) rfl)
set_option maxRecDepth 100000 in
set_option maxHeartbeats 4000000 in
theorem kc_X9_add (l : Launch) (D : va_G) (k : Nat → ClassId) (B0 : Nat) (ad : Nat → Nat) (al sw : Nat) : zf_Con l yX9_add (zw yX9_add cX9_add 3 none) ({ frames := 0, cells := 0, slots := 0, locals := 0 }) D k (zEx B0 ad al sw) zGT 37 zm_X9_add := by
  have hEx := zEx_ok B0 ad al sw
  refine zf_mk (cc := cX9_add) (nL := 3) (ret := none) (Ms := []) (fg := [(9, 7, 0, .inl (0, 0)), (13, 7, 1, .inl (0, 0))]) (fp := [(13, 7, 1, .inl ((-2147483648), 2147483647))]) (ins := zn_X9_add) (cuts := zu_X9_add) (fuel := 3000) (by decide) rfl hEx (by decide +kernel) (by decide +kernel) (by decide +kernel) (by decide +kernel) ?_
  intro p e s m args below meth c Q Sg w0 A θ0 S hK hE hAB hA hone hsing
  refine ⟨?_, ?_, ?_⟩
  · exact zf_ac ((fun H locs ws a q0 fs v rest pc ls hP he hv hdg kk => va_get (D := D) (ci := 7) (C := RX9) (T := TX9) (N := 2) (own := RX9) S.1 S.2.1 S.2.2.2.2 (zg_in inW_X9) S.2.2.2.1 hK hP q0 he rfl 0 (by decide) (S.2.2.2.2 (.fieldLink RX9 9 "RungMoney$Tape" "bytes" "[I") (List.mem_cons_of_mem _ zw_132)) (fun _ h9 => h9) hv hdg kk)) (zf_ac ((fun H locs ws a q0 fs v rest pc ls hP he hv hdg kk => va_get (D := D) (ci := 7) (C := RX9) (T := TX9) (N := 2) (own := RX9) S.1 S.2.1 S.2.2.2.2 (zg_in inW_X9) S.2.2.2.1 hK hP q0 he rfl 1 (by decide) (S.2.2.2.2 (.fieldLink RX9 13 "RungMoney$Tape" "size" "I") (List.mem_cons_of_mem _ zw_135)) (fun _ h9 => h9) hv hdg kk)) zf_an)
  · exact zf_ac ((fun H locs ws a q0 fs v rest pc ls hP hD hS he hl hv hdg kk => by obtain ⟨x, rfl, h1, h2⟩ := hv; exact va_put (D := D) (ci := 7) (v := .int x) (ty := .int) (C := RX9) (T := TX9) (N := 2) (own := RX9) S.1 S.2.1 S.2.2.2.2 (zg_in inW_X9) tyX9 tyX9_ok nmX9 S.2.2.2.1 hK hP hD hS q0 he rfl 1 (by decide) (S.2.2.2.2 (.fieldLink RX9 13 "RungMoney$Tape" "size" "I") (List.mem_cons_of_mem _ zw_135)) (fun _ h9 => h9) rfl (by decide +kernel) rfl rfl hl hdg kk)) zf_an
  · exact zf_crl (xs := []) (by decide +kernel) (zf_an)

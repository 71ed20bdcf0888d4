def zGT : List zf_G := [(false, 10, [(1, .inr (some 1)), (2, .inr (some 3)), (3, .inr (some 4)), (4, .inr (some 64)), (5, .inr (some 64)), (6, .inr (some 76)), (7, .inr (some 76)), (8, .inr (some 5)), (9, .inr (some 10)), (10, .inr (some 12)), (11, .inr (some 14)), (12, .inr (some 15)), (13, .inr (some 16)), (14, .inr (some 17)), (15, .inl ((-2147483648), 2147483647)), (16, .inl ((-2147483648), 2147483647)), (17, .inl ((-2147483648), 2147483647)), (18, .inl ((-2147483648), 2147483647))]),
  (false, 7, [(1, .inr (some 2)), (2, .inl (0, 940))]),
  (true, 0, [(940, .inl ((-2147483648), 2147483647))]),
  (false, 5, [(1, .inr (some 1)), (2, .inl (0, 940)), (3, .inl (0, 940)), (4, .inl (0, 940)), (5, .inl ((-2147483648), 2147483647)), (6, .inr none), (7, .inl ((-2147483648), 2147483647)), (8, .inl ((-2147483648), 2147483647)), (9, .inl ((-2147483648), 2147483647)), (10, .inl ((-2147483648), 2147483647)), (11, .inl ((-2147483648), 2147483647))]),
  (false, 9, [(1, .inr (some 3)), (2, .inl ((-2147483648), 2147483647)), (3, .inl (0, 1)), (4, .inl ((-2147483648), 2147483647))]),
  (false, 2, [(1, .inr (some 6)), (2, .inr (some 7)), (3, .inr (some 8)), (4, .inr (some 9)), (5, .inl (0, 40)), (6, .inl (0, 40)), (7, .inl ((-2147483648), 2147483647))]),
  (true, 6, [(40, .inr (some 128))]),
  (true, 0, [(40, .inl ((-2147483648), 2147483647))]),
  (true, 0, [(40, .inl ((-2147483648), 2147483647))]),
  (true, 0, [(40, .inl ((-2147483648), 2147483647))]),
  (false, 3, [(1, .inr (some 11)), (2, .inl (0, 8)), (3, .inl (0, 8))]),
  (true, 4, [(9, .inr (some 64))]),
  (false, 4, [(1, .inr (some 13))]),
  (true, 0, [(513, .inl ((-2147483648), 2147483647))]),
  (true, 4, [(2, .inr (some 64))]),
  (true, 5, [(2, .inr (some 76))]),
  (true, 2, [(2, .inl (0, 1))]),
  (true, 0, [(4, .inl ((-2147483648), 2147483647))]),
  (false, 11, [(1, .inl ((-2147483648), 2147483647)), (2, .inr (some 19)), (3, .inl (0, 940)), (4, .inl (0, 940)), (5, .inl (0, 940)), (6, .inl (0, 940)), (7, .inr (some 20)), (8, .inr (some 21)), (9, .inr (some 22)), (10, .inr (some 23)), (11, .inr (some 24)), (12, .inl ((-2147483648), 2147483647)), (13, .inl (0, 940)), (14, .inl (0, 940)), (15, .inl ((-2147483648), 2147483647)), (16, .inl ((-2147483648), 2147483647)), (17, .inl ((-2147483648), 2147483647)), (18, .inr none), (19, .inl ((-2147483648), 2147483647)), (20, .inl ((-2147483648), 2147483647)), (21, .inl ((-2147483648), 2147483647)), (22, .inl (0, 1)), (23, .inl ((-2147483648), 2147483647)), (24, .inr (some 26)), (25, .inr (some 27)), (26, .inl (0, 8)), (27, .inr (some 28)), (28, .inr (some 29)), (29, .inl ((-2147483648), 2147483647)), (30, .inl ((-2147483648), 2147483647)), (31, .inl (0, 1)), (32, .inr (some 25)), (33, .inl ((-2147483648), 2147483647)), (34, .inl (0, 1)), (35, .inl (0, 40)), (36, .inr (some 30)), (37, .inl (0, 1)), (38, .inr (some 31)), (39, .inl (0, 44)), (40, .inl ((-2147483648), 2147483647)), (41, .inl (0, 44)), (42, .inl ((-2147483648), 2147483647)), (43, .inl (0, 1)), (44, .inr (some 32)), (45, .inr (some 33)), (46, .inr (some 34)), (47, .inr (some 35))]),
  (true, 3, [(940, .inl ((-128), 127))]),
  (true, 0, [(1, .inl (0, 6)), (2, .inl (0, 16)), (19, .inl ((-2147483648), 2147483647)), (35, .inl (0, 12)), (87, .inl ((-2147483648), 2147483647)), (88, .inl (0, 16)), (107, .inl ((-2147483648), 2147483647)), (123, .inl (0, 32)), (693, .inl ((-2147483648), 2147483647)), (694, .inl (0, 44)), (874, .inl ((-2147483648), 2147483647))]),
  (true, 0, [(1, .inl (0, 6)), (2, .inl (0, 16)), (19, .inl ((-2147483648), 2147483647)), (35, .inl (0, 12)), (87, .inl ((-2147483648), 2147483647))]),
  (true, 0, [(160, .inl ((-2147483648), 2147483647))]),
  (true, 1, [(12, .inr none)]),
  (true, 1, [(23, .inr none)]),
  (true, 0, [(16, .inl ((-2147483648), 2147483647))]),
  (true, 0, [(1, .inl (0, 16)), (20, .inl ((-2147483648), 2147483647)), (36, .inl (0, 32)), (606, .inl ((-2147483648), 2147483647)), (607, .inl (0, 16)), (626, .inl ((-2147483648), 2147483647)), (642, .inl (0, 32)), (1212, .inl ((-2147483648), 2147483647)), (1213, .inl (0, 16)), (1232, .inl ((-2147483648), 2147483647)), (1248, .inl (0, 32)), (1818, .inl ((-2147483648), 2147483647)), (1819, .inl (0, 16)), (1838, .inl ((-2147483648), 2147483647)), (1854, .inl (0, 32)), (2424, .inl ((-2147483648), 2147483647)), (2425, .inl (0, 16)), (2444, .inl ((-2147483648), 2147483647)), (2460, .inl (0, 32)), (3030, .inl ((-2147483648), 2147483647)), (3031, .inl (0, 16)), (3050, .inl ((-2147483648), 2147483647)), (3066, .inl (0, 32)), (3636, .inl ((-2147483648), 2147483647)), (3637, .inl (0, 16)), (3656, .inl ((-2147483648), 2147483647)), (3672, .inl (0, 32)), (4242, .inl ((-2147483648), 2147483647)), (4243, .inl (0, 16)), (4262, .inl ((-2147483648), 2147483647)), (4278, .inl (0, 32)), (4848, .inl ((-2147483648), 2147483647))]),
  (true, 0, [(1, .inl (0, 16)), (20, .inl ((-2147483648), 2147483647)), (36, .inl (0, 32)), (606, .inl ((-2147483648), 2147483647))]),
  (true, 0, [(36, .inl ((-2147483648), 2147483647))]),
  (true, 0, [(6, .inl ((-2147483648), 2147483647))]),
  (true, 0, [(4, .inl ((-2147483648), 2147483647))]),
  (true, 0, [(45, .inl ((-2147483648), 2147483647))]),
  (true, 2, [(45, .inl (0, 1))]),
  (true, 0, [(1, .inl (0, 6)), (2, .inl (0, 16)), (19, .inl ((-2147483648), 2147483647)), (35, .inl (0, 12)), (87, .inl ((-2147483648), 2147483647)), (88, .inl (0, 16)), (107, .inl ((-2147483648), 2147483647)), (123, .inl (0, 32)), (693, .inl ((-2147483648), 2147483647)), (694, .inl (0, 44)), (874, .inl ((-2147483648), 2147483647)), (875, .inl (0, 6)), (876, .inl (0, 16)), (893, .inl ((-2147483648), 2147483647)), (909, .inl (0, 12)), (961, .inl ((-2147483648), 2147483647)), (962, .inl (0, 16)), (981, .inl ((-2147483648), 2147483647)), (997, .inl (0, 32)), (1567, .inl ((-2147483648), 2147483647)), (1568, .inl (0, 44)), (1748, .inl ((-2147483648), 2147483647))]),
  (true, 1, [(12, .inr none)]),
  (true, 2, [(2, .inl (0, 1))]),
  (true, 1, [(1, .inr none)]),
  (false, 0, []),
  (false, 0, []),
  (false, 0, []),
  (false, 0, []),
  (false, 0, []),
  (false, 0, []),
  (false, 0, []),
  (false, 0, []),
  (false, 0, []),
  (false, 0, []),
  (false, 0, []),
  (false, 0, []),
  (false, 0, []),
  (false, 0, []),
  (false, 0, []),
  (false, 0, []),
  (false, 0, []),
  (false, 0, []),
  (false, 0, []),
  (false, 0, []),
  (false, 0, []),
  (false, 0, []),
  (false, 0, []),
  (false, 0, []),
  (false, 0, []),
  (false, 0, []),
  (false, 0, []),
  (false, 8, [(1, .inl (0, 6)), (2, .inr (some 65)), (3, .inr (some 66)), (4, .inr (some 72)), (5, .inr (some 75)), (6, .inl ((-2147483648), 2147483647)), (7, .inl ((-2147483648), 2147483647)), (8, .inl ((-2147483648), 2147483647)), (9, .inl ((-2147483648), 2147483647))]),
  (true, 1, [(6, .inr none)]),
  (false, 1, [(1, .inl (0, 16)), (2, .inr (some 67)), (3, .inr (some 68)), (4, .inr (some 69)), (5, .inr (some 70)), (6, .inr (some 71))]),
  (true, 0, [(16, .inl ((-2147483648), 2147483647))]),
  (true, 0, [(16, .inl ((-2147483648), 2147483647))]),
  (true, 0, [(16, .inl ((-2147483648), 2147483647))]),
  (true, 0, [(16, .inl ((-2147483648), 2147483647))]),
  (true, 0, [(16, .inl ((-2147483648), 2147483647))]),
  (false, 0, [(1, .inr (some 73)), (2, .inr (some 74))]),
  (true, 0, [(36, .inl ((-2147483648), 2147483647))]),
  (true, 0, [(6, .inl ((-2147483648), 2147483647))]),
  (true, 0, [(6, .inl ((-2147483648), 2147483647))]),
  (false, 6, [(1, .inr (some 77)), (2, .inr (some 78)), (3, .inr (some 79)), (4, .inr (some 80)), (5, .inl (0, 40)), (6, .inl ((-2147483648), 2147483647))]),
  (true, 6, [(40, .inr (some 128))]),
  (true, 0, [(40, .inl ((-2147483648), 2147483647))]),
  (true, 0, [(40, .inl ((-2147483648), 2147483647))]),
  (true, 0, [(40, .inl ((-2147483648), 2147483647))])]

theorem zf_01 {x : Int32} (h1 : (0 : Int) ≤ x.toInt) (h2 : x.toInt ≤ (1 : Int)) : x = 0 ∨ x = 1 := by
  rcases (by omega : x.toInt = 0 ∨ x.toInt = 1) with h | h
  · exact Or.inl (Int32.toInt_inj.mp (h.trans (by decide)))
  · exact Or.inr (Int32.toInt_inj.mp (h.trans (by decide)))
def zm_X3_has : zf_M := (([((-2147483648), 2147483647)], [], 65, [], [.inl ([(0, 1)], 0), .inr (some (66, 64))], []), [], [(some (.inl ([], 1)), ([(0, 15)], [], 65, [], [], [])), (some (.inl ([], 0)), ([(0, 2147483647)], [], 65, [], [], [])), (some (.inl ([], 0)), ([((-2147483648), (-1))], [], 65, [], [], []))])
def zn_X3_has : List zf_X := [(0, 1, .iload_n 1, none), (1, 3, .ifCond .lt 15, none), (4, 1, .iload_n 1, none), (5, 1, .aload_n 0, none), (6, 3, .getfield 27, none), (9, 3, .if_icmp .ge 7, none), (12, 1, .iconst 1, none), (13, 3, .goto 4, none), (16, 1, .iconst 0, none), (17, 1, .ireturn, none)]
def zu_X3_has : List zf_U := []
theorem inX3_has_X3 : ∀ w ∈ wsX30, w ∈ wsX3_has := by decide +kernel
set_option maxRecDepth 100000 in
set_option maxHeartbeats 4000000 in
theorem kc_X3_has (l : Launch) (D : va_G) (k : Nat → ClassId) {Ex : (Nat → Option Nat) → va_W → State → Prop} {B0 : Nat} (hEx : zf_Eo Ex B0) : zf_Con l yX3_has wsX3_has ({ frames := 0, cells := 0, slots := 0, locals := 0 }) D k Ex zGT 37 zm_X3_has := by
  refine zf_mk (cc := cX3_has) (nL := 2) (ret := (some .boolean)) (Ms := []) (fg := [(27, 1, 0, .inl (0, 0))]) (fp := []) (ins := zn_X3_has) (cuts := zu_X3_has) (fuel := 3000) (by decide) rfl hEx (by decide +kernel) (by decide +kernel) (by decide +kernel) (by decide +kernel) ?_
  intro p e s m args below meth c Q Sg w0 A θ0 S hK hE hAB hA hone hsing
  refine ⟨?_, ?_, ?_⟩
  · exact zf_ac ((fun H locs ws a q0 fs v rest pc ls hP he hv hdg kk => va_get (D := D) (ci := 1) (C := RX3) (T := TX3) (N := 6) (own := RX3) S.1 S.2.1 S.2.2.2.2 inX3_has_X3 S.2.2.2.1 hK hP q0 he rfl 0 (by decide) (S.2.2.2.2 (.fieldLink RX3 27 "RungMoney$Ladders" "size" "I") (by decide +kernel)) (fun _ h9 => h9) hv hdg kk)) zf_an
  · exact zf_an
  · exact zf_crl (xs := []) (by decide +kernel) (zf_an)
def zm_X3_isThere : zf_M := (([((-2147483648), 2147483647)], [], 65, [], [.inl ([(0, 1)], 0), .inr (some (66, 64))], []), [], [(some (.inl ([], 0)), ([((-2147483648), (-1))], [], 65, [], [], [])), (some (.inl ([], 0)), ([(0, 2147483647)], [], 65, [], [], [])), (some (.inl ([], 1)), ([(0, 15)], [], 65, [], [], [])), (some (.inl ([], 0)), ([(0, 15)], [], 65, [], [], []))])
def zn_X3_isThere : List zf_X := [(0, 1, .aload_n 0, none), (1, 1, .iload_n 1, none), (2, 3, .invokevirtual 37, some 0), (5, 3, .ifCond .eq 17, none), (8, 1, .aload_n 0, none), (9, 3, .getfield 9, none), (12, 1, .iload_n 1, none), (13, 1, .iaload, none), (14, 1, .iconst (-1), none), (15, 3, .if_icmp .eq 7, none), (18, 1, .iconst 1, none), (19, 3, .goto 4, none), (22, 1, .iconst 0, none), (23, 1, .ireturn, none)]
def zu_X3_isThere : List zf_U := []
theorem inX3_isThere_X3 : ∀ w ∈ wsX30, w ∈ wsX3_isThere := by decide +kernel
set_option maxRecDepth 20000 in
theorem ggX3_isThere_X3_has : GoodIn wsX3_isThere wsX3_has := goodIn_r _ [6, 7, 8, 9, 10, 11, 12, 13] (by decide +kernel) (by decide +kernel)
set_option maxRecDepth 20000 in
theorem gX3_isThere_X3_has : GoodIn wsX3_isThere (wsV RX3 37 RX3 yX3_has wsX3_has) := goodIn_app (goodIn_of _ (by decide +kernel)) ggX3_isThere_X3_has
set_option maxRecDepth 100000 in
set_option maxHeartbeats 4000000 in
theorem kc_X3_isThere (l : Launch) (D : va_G) (k : Nat → ClassId) {Ex : (Nat → Option Nat) → va_W → State → Prop} {B0 : Nat} (hEx : zf_Eo Ex B0) : zf_Con l yX3_isThere wsX3_isThere ({ frames := 1, cells := 0, slots := 0, locals := 21 }) D k Ex zGT 37 zm_X3_isThere := by
  refine zf_mk (cc := cX3_isThere) (nL := 2) (ret := (some .boolean)) (Ms := [zm_X3_has]) (fg := [(9, 1, 1, .inl (0, 0))]) (fp := []) (ins := zn_X3_isThere) (cuts := zu_X3_isThere) (fuel := 3000) (by decide) rfl hEx (by decide +kernel) (by decide +kernel) (by decide +kernel) (by decide +kernel) ?_
  intro p e s m args below meth c Q Sg w0 A θ0 S hK hE hAB hA hone hsing
  refine ⟨?_, ?_, ?_⟩
  · exact zf_ac ((fun H locs ws a q0 fs v rest pc ls hP he hv hdg kk => va_get (D := D) (ci := 1) (C := RX3) (T := TX3) (N := 6) (own := RX3) S.1 S.2.1 S.2.2.2.2 inX3_isThere_X3 S.2.2.2.1 hK hP q0 he rfl 1 (by decide) (S.2.2.2.2 (.fieldLink RX3 9 "RungMoney$Ladders" "owners" "[I") (by decide +kernel)) (fun _ h9 => h9) hv hdg kk)) zf_an
  · exact zf_an
  · exact zf_crl (xs := [(.invokevirtual 37, 3, 0)]) (by decide +kernel) (zf_ac (zf_crV S hEx hE hAB hA hK hone hsing (kc_X3_has l D k hEx) (cwV 1 S.2.2.2.2 gX3_isThere_X3_has rfl rfl rfl (by decide +kernel) ⟨(Nat.le_of_ble_eq_true rfl), (Nat.le_of_ble_eq_true rfl)⟩) ⟨(Nat.le_of_ble_eq_true rfl), (Nat.le_of_ble_eq_true rfl)⟩ 1 rfl rfl (ar := [.inl ([(0, 1)], 0)]) rfl rfl (by decide +kernel)) zf_an)
def zm_X3_reach : zf_M := (([(0, 15)], [], 65, [], [.inl ([(0, 1)], 0), .inr (some (66, 64))], []), [], [(some (.inl ([(1, 1)], 0)), ([(0, 15), (0, 2147483646)], [], 65, [], [], [])), (some (.inl ([(1, 1)], 0)), ([(0, 15), (0, 2147483647)], [], 65, [], [], []))])
def zn_X3_reach : List zf_X := [(0, 1, .iconst 0, none), (1, 1, .istore_n 2, none), (2, 1, .iload_n 2, none), (3, 1, .aload_n 0, none), (4, 3, .getfield 15, none), (7, 1, .iload_n 1, none), (8, 1, .iaload, none), (9, 3, .if_icmp .ge 23, none), (12, 1, .aload_n 0, none), (13, 3, .getfield 18, none), (16, 1, .iload_n 1, none), (17, 1, .iaload, none), (18, 1, .iload_n 2, none), (19, 1, .iushr, none), (20, 1, .iconst 1, none), (21, 1, .iand, none), (22, 1, .iconst 1, none), (23, 3, .if_icmp .ne 9, none), (26, 3, .iinc 2 1, none), (29, 3, .goto (-27), none), (32, 1, .iload_n 2, none), (33, 1, .ireturn, none)]
def zu_X3_reach : List zf_U := [(2, ([(0, 15), (0, 2147483647)], [], 65, [(0, .inr (some (66, 64))), (1, .inl ([(0, 1)], 0)), (2, .inl ([(1, 1)], 0))], [], []), ([(1, (-1))], 2147483648), 0)]
theorem inX3_reach_X3 : ∀ w ∈ wsX30, w ∈ wsX3_reach := by decide +kernel
set_option maxRecDepth 100000 in
set_option maxHeartbeats 4000000 in
theorem kc_X3_reach (l : Launch) (D : va_G) (k : Nat → ClassId) {Ex : (Nat → Option Nat) → va_W → State → Prop} {B0 : Nat} (hEx : zf_Eo Ex B0) : zf_Con l yX3_reach wsX3_reach ({ frames := 0, cells := 0, slots := 0, locals := 0 }) D k Ex zGT 37 zm_X3_reach := by
  refine zf_mk (cc := cX3_reach) (nL := 3) (ret := (some .int)) (Ms := []) (fg := [(15, 1, 2, .inl (0, 0)), (18, 1, 3, .inl (0, 0))]) (fp := []) (ins := zn_X3_reach) (cuts := zu_X3_reach) (fuel := 3000) (by decide) rfl hEx (by decide +kernel) (by decide +kernel) (by decide +kernel) (by decide +kernel) ?_
  intro p e s m args below meth c Q Sg w0 A θ0 S hK hE hAB hA hone hsing
  refine ⟨?_, ?_, ?_⟩
  · exact zf_ac ((fun H locs ws a q0 fs v rest pc ls hP he hv hdg kk => va_get (D := D) (ci := 1) (C := RX3) (T := TX3) (N := 6) (own := RX3) S.1 S.2.1 S.2.2.2.2 inX3_reach_X3 S.2.2.2.1 hK hP q0 he rfl 2 (by decide) (S.2.2.2.2 (.fieldLink RX3 15 "RungMoney$Ladders" "lengths" "[I") (by decide +kernel)) (fun _ h9 => h9) hv hdg kk)) (zf_ac ((fun H locs ws a q0 fs v rest pc ls hP he hv hdg kk => va_get (D := D) (ci := 1) (C := RX3) (T := TX3) (N := 6) (own := RX3) S.1 S.2.1 S.2.2.2.2 inX3_reach_X3 S.2.2.2.1 hK hP q0 he rfl 3 (by decide) (S.2.2.2.2 (.fieldLink RX3 18 "RungMoney$Ladders" "sounds" "[I") (by decide +kernel)) (fun _ h9 => h9) hv hdg kk)) zf_an)
  · exact zf_an
  · exact zf_crl (xs := []) (by decide +kernel) (zf_an)
def zm_J6_bitCount_0f7a4 : zf_M := (([((-2147483648), 2147483647)], [], 64, [], [.inl ([(0, 1)], 0)], []), [], [(some (.inl ([(1, 1)], 0)), ([((-2147483648), 2147483647), (0, 63)], [], 64, [], [], []))])
def zn_J6_bitCount_0f7a4 : List zf_X := [(0, 1, .iload_n 0, none), (1, 1, .iload_n 0, none), (2, 1, .iconst 1, none), (3, 1, .iushr, none), (4, 3, .ldc_w 265, some 0), (7, 1, .iand, none), (8, 1, .isub, none), (9, 1, .istore_n 0, none), (10, 1, .iload_n 0, none), (11, 3, .ldc_w 266, some 1), (14, 1, .iand, none), (15, 1, .iload_n 0, none), (16, 1, .iconst 2, none), (17, 1, .iushr, none), (18, 3, .ldc_w 266, some 1), (21, 1, .iand, none), (22, 1, .iadd, none), (23, 1, .istore_n 0, none), (24, 1, .iload_n 0, none), (25, 1, .iload_n 0, none), (26, 1, .iconst 4, none), (27, 1, .iushr, none), (28, 1, .iadd, none), (29, 3, .ldc_w 267, some 2), (32, 1, .iand, none), (33, 1, .istore_n 0, none), (34, 1, .iload_n 0, none), (35, 1, .iload_n 0, none), (36, 2, .bipush 8, none), (38, 1, .iushr, none), (39, 1, .iadd, none), (40, 1, .istore_n 0, none), (41, 1, .iload_n 0, none), (42, 1, .iload_n 0, none), (43, 2, .bipush 16, none), (45, 1, .iushr, none), (46, 1, .iadd, none), (47, 1, .istore_n 0, none), (48, 1, .iload_n 0, none), (49, 2, .bipush 63, none), (51, 1, .iand, none), (52, 1, .ireturn, none)]
def zu_J6_bitCount_0f7a4 : List zf_U := []
set_option maxRecDepth 100000 in
set_option maxHeartbeats 4000000 in
theorem kc_J6_bitCount_0f7a4 (l : Launch) (D : va_G) (k : Nat → ClassId) {Ex : (Nat → Option Nat) → va_W → State → Prop} {B0 : Nat} (hEx : zf_Eo Ex B0) : zf_Con l yJ6_bitCount_0f7a4 wsJ6_bitCount_0f7a4 ({ frames := 0, cells := 0, slots := 0, locals := 0 }) D k Ex zGT 37 zm_J6_bitCount_0f7a4 := by
  refine zf_mk (cc := cJ6_bitCount_0f7a4) (nL := 1) (ret := (some .int)) (Ms := [zf_mC 1431655765, zf_mC 858993459, zf_mC 252645135]) (fg := []) (fp := []) (ins := zn_J6_bitCount_0f7a4) (cuts := zu_J6_bitCount_0f7a4) (fuel := 3000) (by decide) rfl hEx (by decide +kernel) (by decide +kernel) (by decide +kernel) (by decide +kernel) ?_
  intro p e s m args below meth c Q Sg w0 A θ0 S hK hE hAB hA hone hsing
  refine ⟨?_, ?_, ?_⟩
  · exact zf_an
  · exact zf_an
  · exact zf_crl (xs := [(.ldc_w 265, 3, 0), (.ldc_w 266, 3, 1), (.ldc_w 267, 3, 2)]) (by decide +kernel) (zf_ac (zf_crldcw (own := RJ6) S.1 S.2.1 S.2.2.2.1 (v := 1431655765) (S.2.2.2.2 (.constant RJ6 265 1431655765) (by decide +kernel)) 1431655765 (by decide)) (zf_ac (zf_crldcw (own := RJ6) S.1 S.2.1 S.2.2.2.1 (v := 858993459) (S.2.2.2.2 (.constant RJ6 266 858993459) (by decide +kernel)) 858993459 (by decide)) (zf_ac (zf_crldcw (own := RJ6) S.1 S.2.1 S.2.2.2.1 (v := 252645135) (S.2.2.2.2 (.constant RJ6 267 252645135) (by decide +kernel)) 252645135 (by decide)) zf_an)))
def zm_X3_measure : zf_M := (([((-2147483648), 2147483647), ((-2147483648), 2147483647)], [], 65, [], [.inl ([(1, 1)], 0), .inl ([(0, 1)], 0), .inr (some (66, 64))], []), [], [(some (.inl ([(2, 1)], 0)), ([((-2147483648), 2147483647), ((-2147483648), 2147483647), ((-2147483648), 2147483647)], [], 65, [], [], []))])
def zn_X3_measure : List zf_X := [(0, 1, .aload_n 0, none), (1, 1, .iload_n 1, none), (2, 3, .invokevirtual 37, some 0), (5, 3, .ifCond .ne 5, none), (8, 1, .iconst (-1), none), (9, 1, .ireturn, none), (10, 1, .iload_n 2, none), (11, 33, .tableswitch 80 0 4 #[33, 40, 47, 64, 74], none), (44, 1, .aload_n 0, none), (45, 3, .getfield 9, none), (48, 1, .iload_n 1, none), (49, 1, .iaload, none), (50, 1, .ireturn, none), (51, 1, .aload_n 0, none), (52, 3, .getfield 15, none), (55, 1, .iload_n 1, none), (56, 1, .iaload, none), (57, 1, .ireturn, none), (58, 1, .aload_n 0, none), (59, 3, .getfield 18, none), (62, 1, .iload_n 1, none), (63, 1, .iaload, none), (64, 1, .aload_n 0, none), (65, 3, .getfield 21, none), (68, 1, .iload_n 1, none), (69, 1, .iaload, none), (70, 1, .ior, none), (71, 3, .invokestatic 41, some 1), (74, 1, .ireturn, none), (75, 1, .aload_n 0, none), (76, 3, .getfield 18, none), (79, 1, .iload_n 1, none), (80, 1, .iaload, none), (81, 3, .invokestatic 41, some 1), (84, 1, .ireturn, none), (85, 1, .aload_n 0, none), (86, 1, .iload_n 1, none), (87, 3, .invokevirtual 47, some 2), (90, 1, .ireturn, none), (91, 1, .aload_n 0, none), (92, 3, .getfield 24, none), (95, 1, .iload_n 1, none), (96, 1, .iaload, none), (97, 1, .ireturn, none)]
def zu_X3_measure : List zf_U := []
theorem inX3_measure_X3 : ∀ w ∈ wsX30, w ∈ wsX3_measure := by decide +kernel
set_option maxRecDepth 20000 in
theorem ggX3_measure_X3_has : GoodIn wsX3_measure wsX3_has := goodIn_r _ [10, 11, 23, 24, 25, 26, 27, 28] (by decide +kernel) (by decide +kernel)
set_option maxRecDepth 20000 in
theorem gX3_measure_X3_has : GoodIn wsX3_measure (wsV RX3 37 RX3 yX3_has wsX3_has) := goodIn_app (goodIn_of _ (by decide +kernel)) ggX3_measure_X3_has
set_option maxRecDepth 20000 in
theorem ggX3_measure_J6_bitCount_0f7a4 : GoodIn wsX3_measure wsJ6_bitCount_0f7a4 := goodIn_r _ [15, 16, 17, 18] (by decide +kernel) (by decide +kernel)
set_option maxRecDepth 20000 in
theorem gX3_measure_J6_bitCount_0f7a4 : GoodIn wsX3_measure (va_wsS RX3 41 yJ6_bitCount_0f7a4 wsJ6_bitCount_0f7a4) := goodIn_app (goodIn_of _ (by decide +kernel)) ggX3_measure_J6_bitCount_0f7a4
set_option maxRecDepth 20000 in
theorem ggX3_measure_X3_reach : GoodIn wsX3_measure wsX3_reach := goodIn_r _ [22, 2, 3, 23, 24, 25, 26, 27, 28] (by decide +kernel) (by decide +kernel)
set_option maxRecDepth 20000 in
theorem gX3_measure_X3_reach : GoodIn wsX3_measure (wsV RX3 47 RX3 yX3_reach wsX3_reach) := goodIn_app (goodIn_of _ (by decide +kernel)) ggX3_measure_X3_reach
set_option maxRecDepth 100000 in
set_option maxHeartbeats 4000000 in
theorem kc_X3_measure (l : Launch) (D : va_G) (k : Nat → ClassId) {Ex : (Nat → Option Nat) → va_W → State → Prop} {B0 : Nat} (hEx : zf_Eo Ex B0) : zf_Con l yX3_measure wsX3_measure ({ frames := 1, cells := 0, slots := 0, locals := 22 }) D k Ex zGT 37 zm_X3_measure := by
  refine zf_mk (cc := cX3_measure) (nL := 3) (ret := (some .int)) (Ms := [zm_X3_has, zm_J6_bitCount_0f7a4, zm_X3_reach]) (fg := [(9, 1, 1, .inl (0, 0)), (15, 1, 2, .inl (0, 0)), (18, 1, 3, .inl (0, 0)), (21, 1, 4, .inl (0, 0)), (24, 1, 5, .inl (0, 0))]) (fp := []) (ins := zn_X3_measure) (cuts := zu_X3_measure) (fuel := 3000) (by decide) rfl hEx (by decide +kernel) (by decide +kernel) (by decide +kernel) (by decide +kernel) ?_
  intro p e s m args below meth c Q Sg w0 A θ0 S hK hE hAB hA hone hsing
  refine ⟨?_, ?_, ?_⟩
  · exact zf_ac ((fun H locs ws a q0 fs v rest pc ls hP he hv hdg kk => va_get (D := D) (ci := 1) (C := RX3) (T := TX3) (N := 6) (own := RX3) S.1 S.2.1 S.2.2.2.2 inX3_measure_X3 S.2.2.2.1 hK hP q0 he rfl 1 (by decide) (S.2.2.2.2 (.fieldLink RX3 9 "RungMoney$Ladders" "owners" "[I") (by decide +kernel)) (fun _ h9 => h9) hv hdg kk)) (zf_ac ((fun H locs ws a q0 fs v rest pc ls hP he hv hdg kk => va_get (D := D) (ci := 1) (C := RX3) (T := TX3) (N := 6) (own := RX3) S.1 S.2.1 S.2.2.2.2 inX3_measure_X3 S.2.2.2.1 hK hP q0 he rfl 2 (by decide) (S.2.2.2.2 (.fieldLink RX3 15 "RungMoney$Ladders" "lengths" "[I") (by decide +kernel)) (fun _ h9 => h9) hv hdg kk)) (zf_ac ((fun H locs ws a q0 fs v rest pc ls hP he hv hdg kk => va_get (D := D) (ci := 1) (C := RX3) (T := TX3) (N := 6) (own := RX3) S.1 S.2.1 S.2.2.2.2 inX3_measure_X3 S.2.2.2.1 hK hP q0 he rfl 3 (by decide) (S.2.2.2.2 (.fieldLink RX3 18 "RungMoney$Ladders" "sounds" "[I") (by decide +kernel)) (fun _ h9 => h9) hv hdg kk)) (zf_ac ((fun H locs ws a q0 fs v rest pc ls hP he hv hdg kk => va_get (D := D) (ci := 1) (C := RX3) (T := TX3) (N := 6) (own := RX3) S.1 S.2.1 S.2.2.2.2 inX3_measure_X3 S.2.2.2.1 hK hP q0 he rfl 4 (by decide) (S.2.2.2.2 (.fieldLink RX3 21 "RungMoney$Ladders" "paints" "[I") (by decide +kernel)) (fun _ h9 => h9) hv hdg kk)) (zf_ac ((fun H locs ws a q0 fs v rest pc ls hP he hv hdg kk => va_get (D := D) (ci := 1) (C := RX3) (T := TX3) (N := 6) (own := RX3) S.1 S.2.1 S.2.2.2.2 inX3_measure_X3 S.2.2.2.1 hK hP q0 he rfl 5 (by decide) (S.2.2.2.2 (.fieldLink RX3 24 "RungMoney$Ladders" "hands" "[I") (by decide +kernel)) (fun _ h9 => h9) hv hdg kk)) zf_an))))
  · exact zf_an
  · exact zf_crl (xs := [(.invokevirtual 37, 3, 0), (.invokestatic 41, 3, 1), (.invokevirtual 47, 3, 2)]) (by decide +kernel) (zf_ac (zf_crV S hEx hE hAB hA hK hone hsing (kc_X3_has l D k hEx) (cwV 1 S.2.2.2.2 gX3_measure_X3_has rfl rfl rfl (by decide +kernel) ⟨(Nat.le_of_ble_eq_true rfl), (Nat.le_of_ble_eq_true rfl)⟩) ⟨(Nat.le_of_ble_eq_true rfl), (Nat.le_of_ble_eq_true rfl)⟩ 1 rfl rfl (ar := [.inl ([(0, 1)], 0)]) rfl rfl (by decide +kernel)) (zf_ac (zf_crS S hEx hE hAB hA hK hone hsing (kc_J6_bitCount_0f7a4 l D k hEx) (va_cwS 1 S.2.2.2.2 gX3_measure_J6_bitCount_0f7a4 rfl rfl rfl (by decide +kernel) ⟨(Nat.le_of_ble_eq_true rfl), (Nat.le_of_ble_eq_true rfl)⟩) ⟨(Nat.le_of_ble_eq_true rfl), (Nat.le_of_ble_eq_true rfl)⟩ rfl) (zf_ac (zf_crV S hEx hE hAB hA hK hone hsing (kc_X3_reach l D k hEx) (cwV 1 S.2.2.2.2 gX3_measure_X3_reach rfl rfl rfl (by decide +kernel) ⟨(Nat.le_of_ble_eq_true rfl), (Nat.le_of_ble_eq_true rfl)⟩) ⟨(Nat.le_of_ble_eq_true rfl), (Nat.le_of_ble_eq_true rfl)⟩ 1 rfl rfl (ar := [.inl ([(0, 1)], 0)]) rfl rfl (by decide +kernel)) zf_an)))
def zm_X3_sum : zf_M := (([((-2147483648), 2147483647)], [], 65, [], [.inl ([(0, 1)], 0), .inr (some (66, 64))], []), [], [(some (.inl ([(1, 1)], 0)), ([((-2147483648), 2147483647), ((-2147483648), 2147483647)], [], 65, [], [], []))])
def zn_X3_sum : List zf_X := [(0, 1, .iconst 0, none), (1, 1, .istore_n 2, none), (2, 1, .iconst 0, none), (3, 1, .istore_n 3, none), (4, 1, .iload_n 3, none), (5, 1, .aload_n 0, none), (6, 3, .getfield 27, none), (9, 3, .if_icmp .ge 18, none), (12, 1, .iload_n 2, none), (13, 1, .aload_n 0, none), (14, 1, .iload_n 3, none), (15, 1, .iload_n 1, none), (16, 3, .invokevirtual 53, some 0), (19, 1, .iadd, none), (20, 1, .istore_n 2, none), (21, 3, .iinc 3 1, none), (24, 3, .goto (-20), none), (27, 1, .iload_n 2, none), (28, 1, .ireturn, none)]
def zu_X3_sum : List zf_U := [(4, ([((-2147483648), 2147483647), ((-2147483648), 2147483647), (0, 16)], [], 65, [(0, .inr (some (66, 64))), (1, .inl ([(0, 1)], 0)), (2, .inl ([(1, 1)], 0)), (3, .inl ([(2, 1)], 0))], [], []), ([(2, (-1))], 17), 0)]
theorem inX3_sum_X3 : ∀ w ∈ wsX30, w ∈ wsX3_sum := by decide +kernel
set_option maxRecDepth 20000 in
theorem ggX3_sum_X3_measure : GoodIn wsX3_sum wsX3_measure := goodIn_r _ [6, 7, 8, 9, 10, 11, 12, 13, 14, 5, 15, 1, 16, 17, 18, 19, 20, 21, 22, 23, 24, 25, 26, 27, 28, 29, 30, 31, 32] (by decide +kernel) (by decide +kernel)
set_option maxRecDepth 20000 in
theorem gX3_sum_X3_measure : GoodIn wsX3_sum (wsV RX3 53 RX3 yX3_measure wsX3_measure) := goodIn_app (goodIn_of _ (by decide +kernel)) ggX3_sum_X3_measure
set_option maxRecDepth 100000 in
set_option maxHeartbeats 4000000 in
theorem kc_X3_sum (l : Launch) (D : va_G) (k : Nat → ClassId) {Ex : (Nat → Option Nat) → va_W → State → Prop} {B0 : Nat} (hEx : zf_Eo Ex B0) : zf_Con l yX3_sum wsX3_sum ({ frames := 2, cells := 0, slots := 0, locals := 44 }) D k Ex zGT 37 zm_X3_sum := by
  refine zf_mk (cc := cX3_sum) (nL := 4) (ret := (some .int)) (Ms := [zm_X3_measure]) (fg := [(27, 1, 0, .inl (0, 0))]) (fp := []) (ins := zn_X3_sum) (cuts := zu_X3_sum) (fuel := 3000) (by decide) rfl hEx (by decide +kernel) (by decide +kernel) (by decide +kernel) (by decide +kernel) ?_
  intro p e s m args below meth c Q Sg w0 A θ0 S hK hE hAB hA hone hsing
  refine ⟨?_, ?_, ?_⟩
  · exact zf_ac ((fun H locs ws a q0 fs v rest pc ls hP he hv hdg kk => va_get (D := D) (ci := 1) (C := RX3) (T := TX3) (N := 6) (own := RX3) S.1 S.2.1 S.2.2.2.2 inX3_sum_X3 S.2.2.2.1 hK hP q0 he rfl 0 (by decide) (S.2.2.2.2 (.fieldLink RX3 27 "RungMoney$Ladders" "size" "I") (by decide +kernel)) (fun _ h9 => h9) hv hdg kk)) zf_an
  · exact zf_an
  · exact zf_crl (xs := [(.invokevirtual 53, 3, 0)]) (by decide +kernel) (zf_ac (zf_crV S hEx hE hAB hA hK hone hsing (kc_X3_measure l D k hEx) (cwV 2 S.2.2.2.2 gX3_sum_X3_measure rfl rfl rfl (by decide +kernel) ⟨(Nat.le_of_ble_eq_true rfl), (Nat.le_of_ble_eq_true rfl)⟩) ⟨(Nat.le_of_ble_eq_true rfl), (Nat.le_of_ble_eq_true rfl)⟩ 1 rfl rfl (ar := [.inl ([(1, 1)], 0), .inl ([(0, 1)], 0)]) rfl rfl (by decide +kernel)) zf_an)
def zm_X3_add : zf_M := (([((-2147483648), 2147483647), ((-2147483648), 2147483647), ((-2147483648), 2147483647), ((-2147483648), 2147483647), ((-2147483648), 2147483647)], [], 65, [], [.inl ([(4, 1)], 0), .inl ([(3, 1)], 0), .inl ([(2, 1)], 0), .inl ([(1, 1)], 0), .inl ([(0, 1)], 0), .inr (some (66, 64))], []), [(67, ([], 0), ([], 15)), (68, ([], 0), ([], 15)), (69, ([], 0), ([], 15)), (70, ([], 0), ([], 15)), (71, ([], 0), ([], 15)), (66, ([], 0), ([], 0))], [(none, ([((-2147483648), 2147483647), ((-2147483648), 2147483647), ((-2147483648), 2147483647), ((-2147483648), 2147483647), ((-2147483648), 2147483647)], [], 65, [], [], []))])
def zn_X3_add : List zf_X := [(0, 1, .aload_n 0, none), (1, 3, .getfield 27, none), (4, 2, .bipush 16, none), (6, 3, .if_icmp .ge 65, none), (9, 1, .aload_n 0, none), (10, 3, .getfield 9, none), (13, 1, .aload_n 0, none), (14, 3, .getfield 27, none), (17, 1, .iload_n 1, none), (18, 1, .iastore, none), (19, 1, .aload_n 0, none), (20, 3, .getfield 15, none), (23, 1, .aload_n 0, none), (24, 3, .getfield 27, none), (27, 1, .iload_n 2, none), (28, 1, .iastore, none), (29, 1, .aload_n 0, none), (30, 3, .getfield 18, none), (33, 1, .aload_n 0, none), (34, 3, .getfield 27, none), (37, 1, .iload_n 3, none), (38, 1, .iastore, none), (39, 1, .aload_n 0, none), (40, 3, .getfield 21, none), (43, 1, .aload_n 0, none), (44, 3, .getfield 27, none), (47, 2, .iload 4, none), (49, 1, .iastore, none), (50, 1, .aload_n 0, none), (51, 3, .getfield 24, none), (54, 1, .aload_n 0, none), (55, 3, .getfield 27, none), (58, 2, .iload 5, none), (60, 1, .iastore, none), (61, 1, .aload_n 0, none), (62, 1, .dup, none), (63, 3, .getfield 27, none), (66, 1, .iconst 1, none), (67, 1, .iadd, none), (68, 3, .putfield 27, none), (71, 1, .return_, none)]
def zu_X3_add : List zf_U := []
theorem inX3_add_X3 : ∀ w ∈ wsX30, w ∈ wsX3_add := by decide +kernel
set_option maxRecDepth 100000 in
set_option maxHeartbeats 4000000 in
theorem kc_X3_add (l : Launch) (D : va_G) (k : Nat → ClassId) {Ex : (Nat → Option Nat) → va_W → State → Prop} {B0 : Nat} (hEx : zf_Eo Ex B0) : zf_Con l yX3_add wsX3_add ({ frames := 0, cells := 0, slots := 0, locals := 0 }) D k Ex zGT 37 zm_X3_add := by
  refine zf_mk (cc := cX3_add) (nL := 6) (ret := none) (Ms := []) (fg := [(9, 1, 1, .inl (0, 0)), (15, 1, 2, .inl (0, 0)), (18, 1, 3, .inl (0, 0)), (21, 1, 4, .inl (0, 0)), (24, 1, 5, .inl (0, 0)), (27, 1, 0, .inl (0, 0))]) (fp := [(27, 1, 0, .inl ((-2147483648), 2147483647))]) (ins := zn_X3_add) (cuts := zu_X3_add) (fuel := 3000) (by decide) rfl hEx (by decide +kernel) (by decide +kernel) (by decide +kernel) (by decide +kernel) ?_
  intro p e s m args below meth c Q Sg w0 A θ0 S hK hE hAB hA hone hsing
  refine ⟨?_, ?_, ?_⟩
  · exact zf_ac ((fun H locs ws a q0 fs v rest pc ls hP he hv hdg kk => va_get (D := D) (ci := 1) (C := RX3) (T := TX3) (N := 6) (own := RX3) S.1 S.2.1 S.2.2.2.2 inX3_add_X3 S.2.2.2.1 hK hP q0 he rfl 1 (by decide) (S.2.2.2.2 (.fieldLink RX3 9 "RungMoney$Ladders" "owners" "[I") (by decide +kernel)) (fun _ h9 => h9) hv hdg kk)) (zf_ac ((fun H locs ws a q0 fs v rest pc ls hP he hv hdg kk => va_get (D := D) (ci := 1) (C := RX3) (T := TX3) (N := 6) (own := RX3) S.1 S.2.1 S.2.2.2.2 inX3_add_X3 S.2.2.2.1 hK hP q0 he rfl 2 (by decide) (S.2.2.2.2 (.fieldLink RX3 15 "RungMoney$Ladders" "lengths" "[I") (by decide +kernel)) (fun _ h9 => h9) hv hdg kk)) (zf_ac ((fun H locs ws a q0 fs v rest pc ls hP he hv hdg kk => va_get (D := D) (ci := 1) (C := RX3) (T := TX3) (N := 6) (own := RX3) S.1 S.2.1 S.2.2.2.2 inX3_add_X3 S.2.2.2.1 hK hP q0 he rfl 3 (by decide) (S.2.2.2.2 (.fieldLink RX3 18 "RungMoney$Ladders" "sounds" "[I") (by decide +kernel)) (fun _ h9 => h9) hv hdg kk)) (zf_ac ((fun H locs ws a q0 fs v rest pc ls hP he hv hdg kk => va_get (D := D) (ci := 1) (C := RX3) (T := TX3) (N := 6) (own := RX3) S.1 S.2.1 S.2.2.2.2 inX3_add_X3 S.2.2.2.1 hK hP q0 he rfl 4 (by decide) (S.2.2.2.2 (.fieldLink RX3 21 "RungMoney$Ladders" "paints" "[I") (by decide +kernel)) (fun _ h9 => h9) hv hdg kk)) (zf_ac ((fun H locs ws a q0 fs v rest pc ls hP he hv hdg kk => va_get (D := D) (ci := 1) (C := RX3) (T := TX3) (N := 6) (own := RX3) S.1 S.2.1 S.2.2.2.2 inX3_add_X3 S.2.2.2.1 hK hP q0 he rfl 5 (by decide) (S.2.2.2.2 (.fieldLink RX3 24 "RungMoney$Ladders" "hands" "[I") (by decide +kernel)) (fun _ h9 => h9) hv hdg kk)) (zf_ac ((fun H locs ws a q0 fs v rest pc ls hP he hv hdg kk => va_get (D := D) (ci := 1) (C := RX3) (T := TX3) (N := 6) (own := RX3) S.1 S.2.1 S.2.2.2.2 inX3_add_X3 S.2.2.2.1 hK hP q0 he rfl 0 (by decide) (S.2.2.2.2 (.fieldLink RX3 27 "RungMoney$Ladders" "size" "I") (by decide +kernel)) (fun _ h9 => h9) hv hdg kk)) zf_an)))))
  · exact zf_ac ((fun H locs ws a q0 fs v rest pc ls hP hD hS he hl hv hdg kk => by obtain ⟨x, rfl, h1, h2⟩ := hv; exact va_put (D := D) (ci := 1) (v := .int x) (ty := .int) (C := RX3) (T := TX3) (N := 6) (own := RX3) S.1 S.2.1 S.2.2.2.2 inX3_add_X3 tyX3 tyX3_ok nmX3 S.2.2.2.1 hK hP hD hS q0 he rfl 0 (by decide) (S.2.2.2.2 (.fieldLink RX3 27 "RungMoney$Ladders" "size" "I") (by decide +kernel)) (fun _ h9 => h9) rfl (by decide +kernel) rfl rfl hl hdg kk)) zf_an
  · exact zf_crl (xs := []) (by decide +kernel) (zf_an)
def zm_X3_vanish : zf_M := (([((-2147483648), 2147483647)], [], 65, [], [.inl ([(0, 1)], 0), .inr (some (66, 64))], []), [(67, ([(0, 1)], 0), ([(0, 1)], 0)), (68, ([(0, 1)], 0), ([(0, 1)], 0)), (69, ([(0, 1)], 0), ([(0, 1)], 0)), (70, ([(0, 1)], 0), ([(0, 1)], 0))], [(none, ([((-2147483648), (-1))], [], 65, [], [], [])), (none, ([(0, 2147483647)], [], 65, [], [], [])), (none, ([(0, 15)], [], 65, [], [], []))])
def zn_X3_vanish : List zf_X := [(0, 1, .aload_n 0, none), (1, 1, .iload_n 1, none), (2, 3, .invokevirtual 37, some 0), (5, 3, .ifCond .eq 31, none), (8, 1, .aload_n 0, none), (9, 3, .getfield 9, none), (12, 1, .iload_n 1, none), (13, 1, .iconst (-1), none), (14, 1, .iastore, none), (15, 1, .aload_n 0, none), (16, 3, .getfield 15, none), (19, 1, .iload_n 1, none), (20, 1, .iconst 0, none), (21, 1, .iastore, none), (22, 1, .aload_n 0, none), (23, 3, .getfield 18, none), (26, 1, .iload_n 1, none), (27, 1, .iconst 0, none), (28, 1, .iastore, none), (29, 1, .aload_n 0, none), (30, 3, .getfield 21, none), (33, 1, .iload_n 1, none), (34, 1, .iconst 0, none), (35, 1, .iastore, none), (36, 1, .return_, none)]
def zu_X3_vanish : List zf_U := []
theorem inX3_vanish_X3 : ∀ w ∈ wsX30, w ∈ wsX3_vanish := by decide +kernel
set_option maxRecDepth 20000 in
theorem ggX3_vanish_X3_has : GoodIn wsX3_vanish wsX3_has := goodIn_r _ [9, 10, 11, 12, 13, 14, 15, 16] (by decide +kernel) (by decide +kernel)
set_option maxRecDepth 20000 in
theorem gX3_vanish_X3_has : GoodIn wsX3_vanish (wsV RX3 37 RX3 yX3_has wsX3_has) := goodIn_app (goodIn_of _ (by decide +kernel)) ggX3_vanish_X3_has
set_option maxRecDepth 100000 in
set_option maxHeartbeats 4000000 in
theorem kc_X3_vanish (l : Launch) (D : va_G) (k : Nat → ClassId) {Ex : (Nat → Option Nat) → va_W → State → Prop} {B0 : Nat} (hEx : zf_Eo Ex B0) : zf_Con l yX3_vanish wsX3_vanish ({ frames := 1, cells := 0, slots := 0, locals := 21 }) D k Ex zGT 37 zm_X3_vanish := by
  refine zf_mk (cc := cX3_vanish) (nL := 2) (ret := none) (Ms := [zm_X3_has]) (fg := [(9, 1, 1, .inl (0, 0)), (15, 1, 2, .inl (0, 0)), (18, 1, 3, .inl (0, 0)), (21, 1, 4, .inl (0, 0))]) (fp := []) (ins := zn_X3_vanish) (cuts := zu_X3_vanish) (fuel := 3000) (by decide) rfl hEx (by decide +kernel) (by decide +kernel) (by decide +kernel) (by decide +kernel) ?_
  intro p e s m args below meth c Q Sg w0 A θ0 S hK hE hAB hA hone hsing
  refine ⟨?_, ?_, ?_⟩
  · exact zf_ac ((fun H locs ws a q0 fs v rest pc ls hP he hv hdg kk => va_get (D := D) (ci := 1) (C := RX3) (T := TX3) (N := 6) (own := RX3) S.1 S.2.1 S.2.2.2.2 inX3_vanish_X3 S.2.2.2.1 hK hP q0 he rfl 1 (by decide) (S.2.2.2.2 (.fieldLink RX3 9 "RungMoney$Ladders" "owners" "[I") (by decide +kernel)) (fun _ h9 => h9) hv hdg kk)) (zf_ac ((fun H locs ws a q0 fs v rest pc ls hP he hv hdg kk => va_get (D := D) (ci := 1) (C := RX3) (T := TX3) (N := 6) (own := RX3) S.1 S.2.1 S.2.2.2.2 inX3_vanish_X3 S.2.2.2.1 hK hP q0 he rfl 2 (by decide) (S.2.2.2.2 (.fieldLink RX3 15 "RungMoney$Ladders" "lengths" "[I") (by decide +kernel)) (fun _ h9 => h9) hv hdg kk)) (zf_ac ((fun H locs ws a q0 fs v rest pc ls hP he hv hdg kk => va_get (D := D) (ci := 1) (C := RX3) (T := TX3) (N := 6) (own := RX3) S.1 S.2.1 S.2.2.2.2 inX3_vanish_X3 S.2.2.2.1 hK hP q0 he rfl 3 (by decide) (S.2.2.2.2 (.fieldLink RX3 18 "RungMoney$Ladders" "sounds" "[I") (by decide +kernel)) (fun _ h9 => h9) hv hdg kk)) (zf_ac ((fun H locs ws a q0 fs v rest pc ls hP he hv hdg kk => va_get (D := D) (ci := 1) (C := RX3) (T := TX3) (N := 6) (own := RX3) S.1 S.2.1 S.2.2.2.2 inX3_vanish_X3 S.2.2.2.1 hK hP q0 he rfl 4 (by decide) (S.2.2.2.2 (.fieldLink RX3 21 "RungMoney$Ladders" "paints" "[I") (by decide +kernel)) (fun _ h9 => h9) hv hdg kk)) zf_an)))
  · exact zf_an
  · exact zf_crl (xs := [(.invokevirtual 37, 3, 0)]) (by decide +kernel) (zf_ac (zf_crV S hEx hE hAB hA hK hone hsing (kc_X3_has l D k hEx) (cwV 1 S.2.2.2.2 gX3_vanish_X3_has rfl rfl rfl (by decide +kernel) ⟨(Nat.le_of_ble_eq_true rfl), (Nat.le_of_ble_eq_true rfl)⟩) ⟨(Nat.le_of_ble_eq_true rfl), (Nat.le_of_ble_eq_true rfl)⟩ 1 rfl rfl (ar := [.inl ([(0, 1)], 0)]) rfl rfl (by decide +kernel)) zf_an)
def zm_X3_rotBy : zf_M := (([((-2147483648), 2147483647), ((-2147483648), 2147483647)], [], 65, [], [.inl ([(1, 1)], 0), .inl ([(0, 1)], 0), .inr (some (66, 64))], []), [(69, ([], 0), ([], 15))], [(some (.inl ([(2, 1)], 0)), ([((-2147483648), 2147483647), ((-2147483648), 2147483647), ((-2147483648), 2147483647)], [], 65, [], [], []))])
def zn_X3_rotBy : List zf_X := [(0, 1, .iload_n 1, none), (1, 1, .istore_n 3, none), (2, 1, .iconst 0, none), (3, 2, .istore 4, none), (5, 2, .iload 4, none), (7, 1, .aload_n 0, none), (8, 3, .getfield 27, none), (11, 3, .if_icmp .ge 82, none), (14, 1, .iconst 0, none), (15, 2, .istore 5, none), (17, 2, .iload 5, none), (19, 1, .aload_n 0, none), (20, 3, .getfield 15, none), (23, 2, .iload 4, none), (25, 1, .iaload, none), (26, 3, .if_icmp .ge 61, none), (29, 1, .aload_n 0, none), (30, 3, .getfield 18, none), (33, 2, .iload 4, none), (35, 1, .iaload, none), (36, 2, .iload 5, none), (38, 1, .iushr, none), (39, 1, .iconst 1, none), (40, 1, .iand, none), (41, 1, .iconst 1, none), (42, 3, .if_icmp .ne 39, none), (45, 1, .iload_n 3, none), (46, 2, .ldc 90, some 0), (48, 1, .imul, none), (49, 3, .sipush 12345, none), (52, 1, .iadd, none), (53, 1, .istore_n 3, none), (54, 1, .iload_n 3, none), (55, 2, .bipush 8, none), (57, 1, .iushr, none), (58, 2, .bipush 12, none), (60, 1, .irem, none), (61, 1, .iload_n 2, none), (62, 3, .if_icmp .ge 19, none), (65, 1, .aload_n 0, none), (66, 3, .getfield 18, none), (69, 2, .iload 4, none), (71, 1, .dup2, none), (72, 1, .iaload, none), (73, 1, .iconst 1, none), (74, 2, .iload 5, none), (76, 1, .ishl, none), (77, 1, .iconst (-1), none), (78, 1, .ixor, none), (79, 1, .iand, none), (80, 1, .iastore, none), (81, 3, .iinc 5 1, none), (84, 3, .goto (-67), none), (87, 3, .iinc 4 1, none), (90, 3, .goto (-85), none), (93, 1, .iload_n 3, none), (94, 1, .ireturn, none)]
def zu_X3_rotBy : List zf_U := [(5, ([((-2147483648), 2147483647), ((-2147483648), 2147483647), ((-2147483648), 2147483647), (0, 16)], [], 65, [(0, .inr (some (66, 64))), (1, .inl ([(0, 1)], 0)), (2, .inl ([(1, 1)], 0)), (3, .inl ([(2, 1)], 0)), (4, .inl ([(3, 1)], 0))], [], []), ([(3, (-2147483650))], 36507222050), 0),
  (17, ([((-2147483648), 2147483647), ((-2147483648), 2147483647), ((-2147483648), 2147483647), (0, 15), (0, 2147483647), (1, 16)], [], 65, [(0, .inr (some (66, 64))), (1, .inl ([(0, 1)], 0)), (2, .inl ([(1, 1)], 0)), (3, .inl ([(2, 1)], 0)), (4, .inl ([(3, 1)], 0)), (5, .inl ([(4, 1)], 0))], [], [(66, 64, ([], 0), .inl ([(5, 1)], 0))]), ([(3, (-2147483650)), (4, (-1))], 36507222048), 0)]
theorem inX3_rotBy_X3 : ∀ w ∈ wsX30, w ∈ wsX3_rotBy := by decide +kernel
set_option maxRecDepth 100000 in
set_option maxHeartbeats 4000000 in
theorem kc_X3_rotBy (l : Launch) (D : va_G) (k : Nat → ClassId) {Ex : (Nat → Option Nat) → va_W → State → Prop} {B0 : Nat} (hEx : zf_Eo Ex B0) : zf_Con l yX3_rotBy wsX3_rotBy ({ frames := 0, cells := 0, slots := 0, locals := 0 }) D k Ex zGT 37 zm_X3_rotBy := by
  refine zf_mk (cc := cX3_rotBy) (nL := 6) (ret := (some .int)) (Ms := [zf_mC 1103515245]) (fg := [(15, 1, 2, .inl (0, 0)), (18, 1, 3, .inl (0, 0)), (27, 1, 0, .inl (0, 0))]) (fp := []) (ins := zn_X3_rotBy) (cuts := zu_X3_rotBy) (fuel := 3000) (by decide) rfl hEx (by decide +kernel) (by decide +kernel) (by decide +kernel) (by decide +kernel) ?_
  intro p e s m args below meth c Q Sg w0 A θ0 S hK hE hAB hA hone hsing
  refine ⟨?_, ?_, ?_⟩
  · exact zf_ac ((fun H locs ws a q0 fs v rest pc ls hP he hv hdg kk => va_get (D := D) (ci := 1) (C := RX3) (T := TX3) (N := 6) (own := RX3) S.1 S.2.1 S.2.2.2.2 inX3_rotBy_X3 S.2.2.2.1 hK hP q0 he rfl 2 (by decide) (S.2.2.2.2 (.fieldLink RX3 15 "RungMoney$Ladders" "lengths" "[I") (by decide +kernel)) (fun _ h9 => h9) hv hdg kk)) (zf_ac ((fun H locs ws a q0 fs v rest pc ls hP he hv hdg kk => va_get (D := D) (ci := 1) (C := RX3) (T := TX3) (N := 6) (own := RX3) S.1 S.2.1 S.2.2.2.2 inX3_rotBy_X3 S.2.2.2.1 hK hP q0 he rfl 3 (by decide) (S.2.2.2.2 (.fieldLink RX3 18 "RungMoney$Ladders" "sounds" "[I") (by decide +kernel)) (fun _ h9 => h9) hv hdg kk)) (zf_ac ((fun H locs ws a q0 fs v rest pc ls hP he hv hdg kk => va_get (D := D) (ci := 1) (C := RX3) (T := TX3) (N := 6) (own := RX3) S.1 S.2.1 S.2.2.2.2 inX3_rotBy_X3 S.2.2.2.1 hK hP q0 he rfl 0 (by decide) (S.2.2.2.2 (.fieldLink RX3 27 "RungMoney$Ladders" "size" "I") (by decide +kernel)) (fun _ h9 => h9) hv hdg kk)) zf_an))
  · exact zf_an
  · exact zf_crl (xs := [(.ldc 90, 2, 0)]) (by decide +kernel) (zf_ac (zf_crldc (own := RX3) S.1 S.2.1 S.2.2.2.1 (v := 1103515245) (S.2.2.2.2 (.constant RX3 90 1103515245) (by decide +kernel)) 1103515245 (by decide)) zf_an)
def zm_X3_bears : zf_M := (([((-2147483648), 2147483647)], [], 65, [], [.inl ([(0, 1)], 0), .inr (some (66, 64))], []), [], [(some (.inl ([], 0)), ([(0, 15)], [], 65, [], [], [])), (some (.inl ([], 1)), ([(0, 15)], [], 65, [], [], [])), (some (.inl ([], 0)), ([(0, 2147483647)], [], 65, [], [], [])), (some (.inl ([], 0)), ([((-2147483648), (-1))], [], 65, [], [], []))])
def zn_X3_bears : List zf_X := [(0, 1, .aload_n 0, none), (1, 1, .iload_n 1, none), (2, 3, .invokevirtual 50, some 0), (5, 3, .ifCond .eq 22, none), (8, 1, .aload_n 0, none), (9, 1, .iload_n 1, none), (10, 1, .iconst 3, none), (11, 3, .invokevirtual 53, some 1), (14, 1, .aload_n 0, none), (15, 3, .getfield 15, none), (18, 1, .iload_n 1, none), (19, 1, .iaload, none), (20, 3, .if_icmp .ne 7, none), (23, 1, .iconst 1, none), (24, 3, .goto 4, none), (27, 1, .iconst 0, none), (28, 1, .ireturn, none)]
def zu_X3_bears : List zf_U := []
theorem inX3_bears_X3 : ∀ w ∈ wsX30, w ∈ wsX3_bears := by decide +kernel
set_option maxRecDepth 20000 in
theorem ggX3_bears_X3_isThere : GoodIn wsX3_bears wsX3_isThere := goodIn_r _ [6, 7, 8, 9, 10, 5, 11, 12, 31, 32, 33, 34, 35, 36] (by decide +kernel) (by decide +kernel)
set_option maxRecDepth 20000 in
theorem gX3_bears_X3_isThere : GoodIn wsX3_bears (wsV RX3 50 RX3 yX3_isThere wsX3_isThere) := goodIn_app (goodIn_of _ (by decide +kernel)) ggX3_bears_X3_isThere
set_option maxRecDepth 20000 in
theorem ggX3_bears_X3_measure : GoodIn wsX3_bears wsX3_measure := goodIn_r _ [16, 7, 1, 17, 18, 19, 8, 9, 10, 5, 11, 12, 20, 21, 22, 23, 24, 25, 26, 27, 28, 29, 30, 31, 32, 33, 34, 35, 36] (by decide +kernel) (by decide +kernel)
set_option maxRecDepth 20000 in
theorem gX3_bears_X3_measure : GoodIn wsX3_bears (wsV RX3 53 RX3 yX3_measure wsX3_measure) := goodIn_app (goodIn_of _ (by decide +kernel)) ggX3_bears_X3_measure
set_option maxRecDepth 100000 in
set_option maxHeartbeats 4000000 in
theorem kc_X3_bears (l : Launch) (D : va_G) (k : Nat → ClassId) {Ex : (Nat → Option Nat) → va_W → State → Prop} {B0 : Nat} (hEx : zf_Eo Ex B0) : zf_Con l yX3_bears wsX3_bears ({ frames := 2, cells := 0, slots := 0, locals := 44 }) D k Ex zGT 37 zm_X3_bears := by
  refine zf_mk (cc := cX3_bears) (nL := 2) (ret := (some .boolean)) (Ms := [zm_X3_isThere, zm_X3_measure]) (fg := [(15, 1, 2, .inl (0, 0))]) (fp := []) (ins := zn_X3_bears) (cuts := zu_X3_bears) (fuel := 3000) (by decide) rfl hEx (by decide +kernel) (by decide +kernel) (by decide +kernel) (by decide +kernel) ?_
  intro p e s m args below meth c Q Sg w0 A θ0 S hK hE hAB hA hone hsing
  refine ⟨?_, ?_, ?_⟩
  · exact zf_ac ((fun H locs ws a q0 fs v rest pc ls hP he hv hdg kk => va_get (D := D) (ci := 1) (C := RX3) (T := TX3) (N := 6) (own := RX3) S.1 S.2.1 S.2.2.2.2 inX3_bears_X3 S.2.2.2.1 hK hP q0 he rfl 2 (by decide) (S.2.2.2.2 (.fieldLink RX3 15 "RungMoney$Ladders" "lengths" "[I") (by decide +kernel)) (fun _ h9 => h9) hv hdg kk)) zf_an
  · exact zf_an
  · exact zf_crl (xs := [(.invokevirtual 50, 3, 0), (.invokevirtual 53, 3, 1)]) (by decide +kernel) (zf_ac (zf_crV S hEx hE hAB hA hK hone hsing (kc_X3_isThere l D k hEx) (cwV 1 S.2.2.2.2 gX3_bears_X3_isThere rfl rfl rfl (by decide +kernel) ⟨(Nat.le_of_ble_eq_true rfl), (Nat.le_of_ble_eq_true rfl)⟩) ⟨(Nat.le_of_ble_eq_true rfl), (Nat.le_of_ble_eq_true rfl)⟩ 1 rfl rfl (ar := [.inl ([(0, 1)], 0)]) rfl rfl (by decide +kernel)) (zf_ac (zf_crV S hEx hE hAB hA hK hone hsing (kc_X3_measure l D k hEx) (cwV 2 S.2.2.2.2 gX3_bears_X3_measure rfl rfl rfl (by decide +kernel) ⟨(Nat.le_of_ble_eq_true rfl), (Nat.le_of_ble_eq_true rfl)⟩) ⟨(Nat.le_of_ble_eq_true rfl), (Nat.le_of_ble_eq_true rfl)⟩ 1 rfl rfl (ar := [.inl ([(1, 1)], 0), .inl ([(0, 1)], 0)]) rfl rfl (by decide +kernel)) zf_an))
def zm_X3_fewestFor : zf_M := (([((-2147483648), 2147483647)], [], 65, [], [.inl ([(0, 1)], 0), .inr (some (66, 64))], []), [], [(some (.inl ([], (-1))), ([((-2147483648), 2147483647)], [], 65, [], [], [])), (some (.inl ([(1, 1)], 0)), ([((-2147483648), 2147483647), ((-2147483648), 2147483647)], [], 65, [], [], []))])
def zn_X3_fewestFor : List zf_X := [(0, 1, .iconst 0, none), (1, 1, .istore_n 2, none), (2, 1, .iconst 0, none), (3, 1, .istore_n 3, none), (4, 2, .bipush 32, none), (6, 2, .istore 4, none), (8, 2, .iload 4, none), (10, 3, .ifCond .le 63, none), (13, 1, .iconst 0, none), (14, 2, .istore 5, none), (16, 2, .iload 5, none), (18, 1, .aload_n 0, none), (19, 3, .getfield 27, none), (22, 3, .if_icmp .ge 45, none), (25, 1, .aload_n 0, none), (26, 3, .getfield 15, none), (29, 2, .iload 5, none), (31, 1, .iaload, none), (32, 2, .iload 4, none), (34, 3, .if_icmp .ne 27, none), (37, 1, .aload_n 0, none), (38, 2, .iload 5, none), (40, 3, .invokevirtual 69, some 0), (43, 3, .ifCond .eq 18, none), (46, 1, .iload_n 2, none), (47, 2, .iload 4, none), (49, 1, .iadd, none), (50, 1, .istore_n 2, none), (51, 3, .iinc 3 1, none), (54, 1, .iload_n 2, none), (55, 1, .iload_n 1, none), (56, 3, .if_icmp .lt 5, none), (59, 1, .iload_n 3, none), (60, 1, .ireturn, none), (61, 3, .iinc 5 1, none), (64, 3, .goto (-48), none), (67, 3, .iinc 4 (-1), none), (70, 3, .goto (-62), none), (73, 1, .iconst (-1), none), (74, 1, .ireturn, none)]
def zu_X3_fewestFor : List zf_U := [(8, ([((-2147483648), 2147483647), ((-2147483648), 2147483647), ((-2147483648), 2147483647), (0, 32)], [], 65, [(0, .inr (some (66, 64))), (1, .inl ([(0, 1)], 0)), (2, .inl ([(1, 1)], 0)), (3, .inl ([(2, 1)], 0)), (4, .inl ([(3, 1)], 0))], [], []), ([(3, 19)], 0), 0),
  (16, ([((-2147483648), 2147483647), ((-2147483648), 2147483647), ((-2147483648), 2147483647), (1, 32), (0, 16)], [], 65, [(0, .inr (some (66, 64))), (1, .inl ([(0, 1)], 0)), (2, .inl ([(1, 1)], 0)), (3, .inl ([(2, 1)], 0)), (4, .inl ([(3, 1)], 0)), (5, .inl ([(4, 1)], 0))], [], []), ([(3, 19), (4, (-1))], (-2)), 0)]
theorem inX3_fewestFor_X3 : ∀ w ∈ wsX30, w ∈ wsX3_fewestFor := by decide +kernel
set_option maxRecDepth 20000 in
theorem ggX3_fewestFor_X3_bears : GoodIn wsX3_fewestFor wsX3_bears := goodIn_r _ [7, 2, 8, 9, 10, 6, 11, 12, 13, 14, 15, 16, 1, 17, 18, 19, 20, 21, 22, 23, 24, 25, 26, 27, 28, 29, 30, 31, 32, 33, 34, 35, 36, 37, 38, 39, 40] (by decide +kernel) (by decide +kernel)
set_option maxRecDepth 20000 in
theorem gX3_fewestFor_X3_bears : GoodIn wsX3_fewestFor (wsV RX3 69 RX3 yX3_bears wsX3_bears) := goodIn_app (goodIn_of _ (by decide +kernel)) ggX3_fewestFor_X3_bears
set_option maxRecDepth 100000 in
set_option maxHeartbeats 4000000 in
theorem kc_X3_fewestFor (l : Launch) (D : va_G) (k : Nat → ClassId) {Ex : (Nat → Option Nat) → va_W → State → Prop} {B0 : Nat} (hEx : zf_Eo Ex B0) : zf_Con l yX3_fewestFor wsX3_fewestFor ({ frames := 3, cells := 0, slots := 0, locals := 65 }) D k Ex zGT 37 zm_X3_fewestFor := by
  refine zf_mk (cc := cX3_fewestFor) (nL := 6) (ret := (some .int)) (Ms := [zm_X3_bears]) (fg := [(15, 1, 2, .inl (0, 0)), (27, 1, 0, .inl (0, 0))]) (fp := []) (ins := zn_X3_fewestFor) (cuts := zu_X3_fewestFor) (fuel := 3000) (by decide) rfl hEx (by decide +kernel) (by decide +kernel) (by decide +kernel) (by decide +kernel) ?_
  intro p e s m args below meth c Q Sg w0 A θ0 S hK hE hAB hA hone hsing
  refine ⟨?_, ?_, ?_⟩
  · exact zf_ac ((fun H locs ws a q0 fs v rest pc ls hP he hv hdg kk => va_get (D := D) (ci := 1) (C := RX3) (T := TX3) (N := 6) (own := RX3) S.1 S.2.1 S.2.2.2.2 inX3_fewestFor_X3 S.2.2.2.1 hK hP q0 he rfl 2 (by decide) (S.2.2.2.2 (.fieldLink RX3 15 "RungMoney$Ladders" "lengths" "[I") (by decide +kernel)) (fun _ h9 => h9) hv hdg kk)) (zf_ac ((fun H locs ws a q0 fs v rest pc ls hP he hv hdg kk => va_get (D := D) (ci := 1) (C := RX3) (T := TX3) (N := 6) (own := RX3) S.1 S.2.1 S.2.2.2.2 inX3_fewestFor_X3 S.2.2.2.1 hK hP q0 he rfl 0 (by decide) (S.2.2.2.2 (.fieldLink RX3 27 "RungMoney$Ladders" "size" "I") (by decide +kernel)) (fun _ h9 => h9) hv hdg kk)) zf_an)
  · exact zf_an
  · exact zf_crl (xs := [(.invokevirtual 69, 3, 0)]) (by decide +kernel) (zf_ac (zf_crV S hEx hE hAB hA hK hone hsing (kc_X3_bears l D k hEx) (cwV 1 S.2.2.2.2 gX3_fewestFor_X3_bears rfl rfl rfl (by decide +kernel) ⟨(Nat.le_of_ble_eq_true rfl), (Nat.le_of_ble_eq_true rfl)⟩) ⟨(Nat.le_of_ble_eq_true rfl), (Nat.le_of_ble_eq_true rfl)⟩ 1 rfl rfl (ar := [.inl ([(0, 1)], 0)]) rfl rfl (by decide +kernel)) zf_an)

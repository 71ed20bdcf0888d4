def xi_X13_isIn : List (Nat × Nat × Instr) := [(0, 1, .iload_n 0), (1, 1, .iload_n 1), (2, 3, .if_icmp .lt 12), (5, 1, .iload_n 0), (6, 1, .iload_n 2), (7, 3, .if_icmp .gt 7), (10, 1, .iconst 1), (11, 3, .goto 4), (14, 1, .iconst 0), (15, 1, .ireturn)]
def xg_X13_isIn : zf_ft := []
def xp_X13_isIn : zf_ft := []
def xv_X13_isIn : List (Nat × Nat × xe_F) := []
def xt_X13_isIn : List (Nat × Nat × xe_F) := []
abbrev xr_X13_isIn := xe_run xGT xSC xRF 3 xg_X13_isIn xp_X13_isIn [] [] xv_X13_isIn xt_X13_isIn xi_X13_isIn
def fx_X13_isIn : xe_F := fun us hp v hp' => (us.map fun v => v.category).sum ≤ 3 ∧ xe_rt (some .boolean) v ∧ True ∧ ∃ n, xr_X13_isIn n (0, xe_ag 0 us.reverse, [], hp) v hp'
theorem mk_X13_isIn {a0 : Int32} {a1 : Int32} {a2 : Int32} {hp hp' : xe_H} {v : Option Value} (hr : xe_rt (some .boolean) v) (h : ∃ n, xr_X13_isIn n (0, [(0, .int a0), (1, .int a1), (2, .int a2)], [], hp) v hp') : fx_X13_isIn [.int a2, .int a1, .int a0] hp v hp' := ⟨Nat.le_of_ble_eq_true rfl, hr, trivial, h⟩
theorem hx_X13_isIn : ∀ us hp v hp', fx_X13_isIn us hp v hp' → (us.map fun v => v.category).sum ≤ 3 ∧ xe_rt (some .boolean) v ∧ ∃ n, xr_X13_isIn n (0, xe_ag 0 us.reverse, [], hp) v hp' := fun us hp v hp' h => ⟨h.1, h.2.1, h.2.2.2⟩
set_option maxRecDepth 100000 in
set_option maxHeartbeats 4000000 in
theorem kx_X13_isIn (l : Launch) (D : va_G) (k : Nat → ClassId) (B0 : Nat) (ad : Nat → Nat) (al sw : Nat) : xe_Con l yX13_isIn (zw yX13_isIn cX13_isIn 3 (some .boolean)) ({ frames := 0, cells := 0, slots := 0, locals := 0 }) D k ad (zEx B0 ad al sw) xGT xSC xRF fx_X13_isIn := by
  have hEx := zEx_ok B0 ad al sw
  refine xe_mk (cc := cX13_isIn) (nL := 3) (ret := (some .boolean)) (fg := xg_X13_isIn) (fp := xp_X13_isIn) (sg := []) (lc := []) (cv := xv_X13_isIn) (cs := xt_X13_isIn) (ins := xi_X13_isIn) (by decide) rfl hEx (by decide +kernel) hx_X13_isIn ?_
  intro p e s m args below meth c Q Sg w0 A θ S hK hE hAB hA hth
  refine ⟨?_, ?_, ?_, ?_, ?_, ?_⟩
  · exact zf_an
  · exact zf_an
  · exact xe_n2
  · exact xe_n3
  · exact xe_n4
  · exact xe_n4
set_option maxRecDepth 100000 in
theorem pt_X13_isIn_0 {a0 a1 a2 : Int32} {I : Nat → Nat → Int32} {L : Nat → Nat → Int64} (h1 : (xe_cmp .lt a0 a1) = true) : ∃ n, xr_X13_isIn n (0, [(0, .int a0), (1, .int a1), (2, .int a2)], [], (I, L)) (some (.int (0 : Int32))) (I, L) := by
  refine xe_bT 2 (A := (14, [(0, .int a0), (1, .int a1), (2, .int a2)], [], (I, L))) (B := (5, [(0, .int a0), (1, .int a1), (2, .int a2)], [], (I, L))) h1 rfl ?_
  refine xe_go 0 (s' := (15, [(0, .int a0), (1, .int a1), (2, .int a2)], [.int (0 : Int32)], (I, L))) rfl ?_
  exact xe_end rfl rfl rfl
set_option maxRecDepth 100000 in
theorem pt_X13_isIn_1 {a0 a1 a2 : Int32} {I : Nat → Nat → Int32} {L : Nat → Nat → Int64} (h1 : (xe_cmp .lt a0 a1) = false) (h2 : (xe_cmp .gt a0 a2) = true) : ∃ n, xr_X13_isIn n (0, [(0, .int a0), (1, .int a1), (2, .int a2)], [], (I, L)) (some (.int (0 : Int32))) (I, L) := by
  refine xe_bF 2 (A := (14, [(0, .int a0), (1, .int a1), (2, .int a2)], [], (I, L))) (B := (5, [(0, .int a0), (1, .int a1), (2, .int a2)], [], (I, L))) h1 rfl ?_
  refine xe_bT 2 (A := (14, [(0, .int a0), (1, .int a1), (2, .int a2)], [], (I, L))) (B := (10, [(0, .int a0), (1, .int a1), (2, .int a2)], [], (I, L))) h2 rfl ?_
  refine xe_go 0 (s' := (15, [(0, .int a0), (1, .int a1), (2, .int a2)], [.int (0 : Int32)], (I, L))) rfl ?_
  exact xe_end rfl rfl rfl
set_option maxRecDepth 100000 in
theorem pt_X13_isIn_2 {a0 a1 a2 : Int32} {I : Nat → Nat → Int32} {L : Nat → Nat → Int64} (h1 : (xe_cmp .lt a0 a1) = false) (h2 : (xe_cmp .gt a0 a2) = false) : ∃ n, xr_X13_isIn n (0, [(0, .int a0), (1, .int a1), (2, .int a2)], [], (I, L)) (some (.int (1 : Int32))) (I, L) := by
  refine xe_bF 2 (A := (14, [(0, .int a0), (1, .int a1), (2, .int a2)], [], (I, L))) (B := (5, [(0, .int a0), (1, .int a1), (2, .int a2)], [], (I, L))) h1 rfl ?_
  refine xe_bF 2 (A := (14, [(0, .int a0), (1, .int a1), (2, .int a2)], [], (I, L))) (B := (10, [(0, .int a0), (1, .int a1), (2, .int a2)], [], (I, L))) h2 rfl ?_
  refine xe_go 1 (s' := (15, [(0, .int a0), (1, .int a1), (2, .int a2)], [.int (1 : Int32)], (I, L))) rfl ?_
  exact xe_end rfl rfl rfl
def xi_X13_octet : List (Nat × Nat × Instr) := [(0, 1, .aload_n 0), (1, 3, .getfield 14), (4, 1, .iload_n 1), (5, 1, .baload), (6, 3, .sipush 255), (9, 1, .iand), (10, 1, .ireturn)]
def xg_X13_octet : zf_ft := [(14, 11, 1, .inl (0, 0))]
def xp_X13_octet : zf_ft := []
def xv_X13_octet : List (Nat × Nat × xe_F) := []
def xt_X13_octet : List (Nat × Nat × xe_F) := []
abbrev xr_X13_octet := xe_run xGT xSC xRF 2 xg_X13_octet xp_X13_octet [] [] xv_X13_octet xt_X13_octet xi_X13_octet
def fx_X13_octet : xe_F := fun us hp v hp' => (us.map fun v => v.category).sum ≤ 2 ∧ xe_rt (some .int) v ∧ (∃ ar, us = ar ++ [.ref 18]) ∧ ∃ n, xr_X13_octet n (0, xe_ag 0 us.reverse, [], hp) v hp'
theorem mk_X13_octet {a1 : Int32} {hp hp' : xe_H} {v : Option Value} (hr : xe_rt (some .int) v) (h : ∃ n, xr_X13_octet n (0, [(0, .ref 18), (1, .int a1)], [], hp) v hp') : fx_X13_octet [.int a1, .ref 18] hp v hp' := ⟨Nat.le_of_ble_eq_true rfl, hr, ⟨[.int a1], rfl⟩, h⟩
theorem hx_X13_octet : ∀ us hp v hp', fx_X13_octet us hp v hp' → (us.map fun v => v.category).sum ≤ 2 ∧ xe_rt (some .int) v ∧ ∃ n, xr_X13_octet n (0, xe_ag 0 us.reverse, [], hp) v hp' := fun us hp v hp' h => ⟨h.1, h.2.1, h.2.2.2⟩
theorem fr_X13_octet : ∀ us hp v hp', fx_X13_octet us hp v hp' → ∃ ar, us = ar ++ [.ref 18] := fun us hp v hp' h => h.2.2.1
set_option maxRecDepth 100000 in
set_option maxHeartbeats 4000000 in
theorem kx_X13_octet (l : Launch) (D : va_G) (k : Nat → ClassId) (B0 : Nat) (ad : Nat → Nat) (al sw : Nat) : xe_Con l yX13_octet (zw yX13_octet cX13_octet 2 (some .int)) ({ frames := 0, cells := 0, slots := 0, locals := 0 }) D k ad (zEx B0 ad al sw) xGT xSC xRF fx_X13_octet := by
  have hEx := zEx_ok B0 ad al sw
  refine xe_mk (cc := cX13_octet) (nL := 2) (ret := (some .int)) (fg := xg_X13_octet) (fp := xp_X13_octet) (sg := []) (lc := []) (cv := xv_X13_octet) (cs := xt_X13_octet) (ins := xi_X13_octet) (by decide) rfl hEx (by decide +kernel) hx_X13_octet ?_
  intro p e s m args below meth c Q Sg w0 A θ S hK hE hAB hA hth
  refine ⟨?_, ?_, ?_, ?_, ?_, ?_⟩
  · exact zf_ac ((fun H locs ws a q0 fs v rest pc ls hP he hv hdg kk => va_get (D := D) (ci := 11) (C := RX13) (T := TX13) (N := 47) (own := RX13) S.1 S.2.1 S.2.2.2.2 (zg_in inW_X13) S.2.2.2.1 hK hP q0 he rfl 1 (by decide) (S.2.2.2.2 (.fieldLink RX13 14 "RungMoneyModel" "tape" "[B") (List.mem_cons_of_mem _ zw_1349)) (fun _ h9 => h9) hv hdg kk)) zf_an
  · exact zf_an
  · exact xe_n2
  · exact xe_n3
  · exact xe_n4
  · exact xe_n4
set_option maxRecDepth 100000 in
theorem pt_X13_octet_0 {a1 : Int32} {I : Nat → Nat → Int32} {L : Nat → Nat → Int64} (h1 : xe_ib a1 940 = true) : ∃ n, xr_X13_octet n (0, [(0, .ref 18), (1, .int a1)], [], (I, L)) (some (.int ((I 19 ((a1).toInt.toNat)) &&& (255 : Int32)))) (I, L) := by
  refine xe_ar 3 (A := (6, [(0, .ref 18), (1, .int a1)], [.int (I 19 ((a1).toInt.toNat))], (I, L))) h1 rfl ?_
  refine xe_go 1 (s' := (10, [(0, .ref 18), (1, .int a1)], [.int ((I 19 ((a1).toInt.toNat)) &&& (255 : Int32))], (I, L))) rfl ?_
  exact xe_end rfl rfl rfl
def xi_X13_peek : List (Nat × Nat × Instr) := [(0, 1, .aload_n 0), (1, 3, .getfield 21), (4, 1, .aload_n 0), (5, 3, .getfield 18), (8, 3, .if_icmp .ge 19), (11, 1, .aload_n 0), (12, 3, .getfield 14), (15, 1, .aload_n 0), (16, 3, .getfield 21), (19, 1, .baload), (20, 3, .sipush 255), (23, 1, .iand), (24, 3, .goto 4), (27, 1, .iconst (-1)), (28, 1, .ireturn)]
def xg_X13_peek : zf_ft := [(21, 11, 4, .inl (0, 0)), (18, 11, 3, .inl (0, 0)), (14, 11, 1, .inl (0, 0))]
def xp_X13_peek : zf_ft := []
def xv_X13_peek : List (Nat × Nat × xe_F) := []
def xt_X13_peek : List (Nat × Nat × xe_F) := []
abbrev xr_X13_peek := xe_run xGT xSC xRF 1 xg_X13_peek xp_X13_peek [] [] xv_X13_peek xt_X13_peek xi_X13_peek
def fx_X13_peek : xe_F := fun us hp v hp' => (us.map fun v => v.category).sum ≤ 1 ∧ xe_rt (some .int) v ∧ (∃ ar, us = ar ++ [.ref 18]) ∧ ∃ n, xr_X13_peek n (0, xe_ag 0 us.reverse, [], hp) v hp'
theorem mk_X13_peek  {hp hp' : xe_H} {v : Option Value} (hr : xe_rt (some .int) v) (h : ∃ n, xr_X13_peek n (0, [(0, .ref 18)], [], hp) v hp') : fx_X13_peek [.ref 18] hp v hp' := ⟨Nat.le_of_ble_eq_true rfl, hr, ⟨[], rfl⟩, h⟩
theorem hx_X13_peek : ∀ us hp v hp', fx_X13_peek us hp v hp' → (us.map fun v => v.category).sum ≤ 1 ∧ xe_rt (some .int) v ∧ ∃ n, xr_X13_peek n (0, xe_ag 0 us.reverse, [], hp) v hp' := fun us hp v hp' h => ⟨h.1, h.2.1, h.2.2.2⟩
theorem fr_X13_peek : ∀ us hp v hp', fx_X13_peek us hp v hp' → ∃ ar, us = ar ++ [.ref 18] := fun us hp v hp' h => h.2.2.1
set_option maxRecDepth 100000 in
set_option maxHeartbeats 4000000 in
theorem kx_X13_peek (l : Launch) (D : va_G) (k : Nat → ClassId) (B0 : Nat) (ad : Nat → Nat) (al sw : Nat) : xe_Con l yX13_peek (zw yX13_peek cX13_peek 1 (some .int)) ({ frames := 0, cells := 0, slots := 0, locals := 0 }) D k ad (zEx B0 ad al sw) xGT xSC xRF fx_X13_peek := by
  have hEx := zEx_ok B0 ad al sw
  refine xe_mk (cc := cX13_peek) (nL := 1) (ret := (some .int)) (fg := xg_X13_peek) (fp := xp_X13_peek) (sg := []) (lc := []) (cv := xv_X13_peek) (cs := xt_X13_peek) (ins := xi_X13_peek) (by decide) rfl hEx (by decide +kernel) hx_X13_peek ?_
  intro p e s m args below meth c Q Sg w0 A θ S hK hE hAB hA hth
  refine ⟨?_, ?_, ?_, ?_, ?_, ?_⟩
  · exact zf_ac ((fun H locs ws a q0 fs v rest pc ls hP he hv hdg kk => va_get (D := D) (ci := 11) (C := RX13) (T := TX13) (N := 47) (own := RX13) S.1 S.2.1 S.2.2.2.2 (zg_in inW_X13) S.2.2.2.1 hK hP q0 he rfl 4 (by decide) (S.2.2.2.2 (.fieldLink RX13 21 "RungMoneyModel" "p" "I") (List.mem_cons_of_mem _ zw_1352)) (fun _ h9 => h9) hv hdg kk)) (zf_ac ((fun H locs ws a q0 fs v rest pc ls hP he hv hdg kk => va_get (D := D) (ci := 11) (C := RX13) (T := TX13) (N := 47) (own := RX13) S.1 S.2.1 S.2.2.2.2 (zg_in inW_X13) S.2.2.2.1 hK hP q0 he rfl 3 (by decide) (S.2.2.2.2 (.fieldLink RX13 18 "RungMoneyModel" "size" "I") (List.mem_cons_of_mem _ zw_1351)) (fun _ h9 => h9) hv hdg kk)) (zf_ac ((fun H locs ws a q0 fs v rest pc ls hP he hv hdg kk => va_get (D := D) (ci := 11) (C := RX13) (T := TX13) (N := 47) (own := RX13) S.1 S.2.1 S.2.2.2.2 (zg_in inW_X13) S.2.2.2.1 hK hP q0 he rfl 1 (by decide) (S.2.2.2.2 (.fieldLink RX13 14 "RungMoneyModel" "tape" "[B") (List.mem_cons_of_mem _ zw_1349)) (fun _ h9 => h9) hv hdg kk)) zf_an))
  · exact zf_an
  · exact xe_n2
  · exact xe_n3
  · exact xe_n4
  · exact xe_n4
set_option maxRecDepth 100000 in
theorem pt_X13_peek_0 {I : Nat → Nat → Int32} {L : Nat → Nat → Int64} (h1 : (xe_cmp .ge (I 18 4) (I 18 3)) = true) : ∃ n, xr_X13_peek n (0, [(0, .ref 18)], [], (I, L)) (some (.int (Int32.ofInt (-1)))) (I, L) := by
  refine xe_bT 4 (A := (27, [(0, .ref 18)], [], (I, L))) (B := (11, [(0, .ref 18)], [], (I, L))) h1 rfl ?_
  refine xe_go 0 (s' := (28, [(0, .ref 18)], [.int (Int32.ofInt (-1))], (I, L))) rfl ?_
  exact xe_end rfl rfl rfl
set_option maxRecDepth 100000 in
theorem pt_X13_peek_1 {I : Nat → Nat → Int32} {L : Nat → Nat → Int64} (h1 : (xe_cmp .ge (I 18 4) (I 18 3)) = false) (h2 : xe_ib (I 18 4) 940 = true) : ∃ n, xr_X13_peek n (0, [(0, .ref 18)], [], (I, L)) (some (.int ((I 19 (((I 18 4)).toInt.toNat)) &&& (255 : Int32)))) (I, L) := by
  refine xe_bF 4 (A := (27, [(0, .ref 18)], [], (I, L))) (B := (11, [(0, .ref 18)], [], (I, L))) h1 rfl ?_
  refine xe_ar 4 (A := (20, [(0, .ref 18)], [.int (I 19 (((I 18 4)).toInt.toNat))], (I, L))) h2 rfl ?_
  refine xe_go 2 (s' := (28, [(0, .ref 18)], [.int ((I 19 (((I 18 4)).toInt.toNat)) &&& (255 : Int32))], (I, L))) rfl ?_
  exact xe_end rfl rfl rfl
def xi_X13_isSmall : List (Nat × Nat × Instr) := [(0, 1, .iload_n 0), (1, 2, .bipush 97), (3, 3, .if_icmp .lt 13), (6, 1, .iload_n 0), (7, 2, .bipush 122), (9, 3, .if_icmp .gt 7), (12, 1, .iconst 1), (13, 3, .goto 4), (16, 1, .iconst 0), (17, 1, .ireturn)]
def xg_X13_isSmall : zf_ft := []
def xp_X13_isSmall : zf_ft := []
def xv_X13_isSmall : List (Nat × Nat × xe_F) := []
def xt_X13_isSmall : List (Nat × Nat × xe_F) := []
abbrev xr_X13_isSmall := xe_run xGT xSC xRF 1 xg_X13_isSmall xp_X13_isSmall [] [] xv_X13_isSmall xt_X13_isSmall xi_X13_isSmall
def fx_X13_isSmall : xe_F := fun us hp v hp' => (us.map fun v => v.category).sum ≤ 1 ∧ xe_rt (some .boolean) v ∧ True ∧ ∃ n, xr_X13_isSmall n (0, xe_ag 0 us.reverse, [], hp) v hp'
theorem mk_X13_isSmall {a0 : Int32} {hp hp' : xe_H} {v : Option Value} (hr : xe_rt (some .boolean) v) (h : ∃ n, xr_X13_isSmall n (0, [(0, .int a0)], [], hp) v hp') : fx_X13_isSmall [.int a0] hp v hp' := ⟨Nat.le_of_ble_eq_true rfl, hr, trivial, h⟩
theorem hx_X13_isSmall : ∀ us hp v hp', fx_X13_isSmall us hp v hp' → (us.map fun v => v.category).sum ≤ 1 ∧ xe_rt (some .boolean) v ∧ ∃ n, xr_X13_isSmall n (0, xe_ag 0 us.reverse, [], hp) v hp' := fun us hp v hp' h => ⟨h.1, h.2.1, h.2.2.2⟩
set_option maxRecDepth 100000 in
set_option maxHeartbeats 4000000 in
theorem kx_X13_isSmall (l : Launch) (D : va_G) (k : Nat → ClassId) (B0 : Nat) (ad : Nat → Nat) (al sw : Nat) : xe_Con l yX13_isSmall (zw yX13_isSmall cX13_isSmall 1 (some .boolean)) ({ frames := 0, cells := 0, slots := 0, locals := 0 }) D k ad (zEx B0 ad al sw) xGT xSC xRF fx_X13_isSmall := by
  have hEx := zEx_ok B0 ad al sw
  refine xe_mk (cc := cX13_isSmall) (nL := 1) (ret := (some .boolean)) (fg := xg_X13_isSmall) (fp := xp_X13_isSmall) (sg := []) (lc := []) (cv := xv_X13_isSmall) (cs := xt_X13_isSmall) (ins := xi_X13_isSmall) (by decide) rfl hEx (by decide +kernel) hx_X13_isSmall ?_
  intro p e s m args below meth c Q Sg w0 A θ S hK hE hAB hA hth
  refine ⟨?_, ?_, ?_, ?_, ?_, ?_⟩
  · exact zf_an
  · exact zf_an
  · exact xe_n2
  · exact xe_n3
  · exact xe_n4
  · exact xe_n4
set_option maxRecDepth 100000 in
theorem pt_X13_isSmall_0 {a0 : Int32} {I : Nat → Nat → Int32} {L : Nat → Nat → Int64} (h1 : (xe_cmp .lt a0 (97 : Int32)) = true) : ∃ n, xr_X13_isSmall n (0, [(0, .int a0)], [], (I, L)) (some (.int (0 : Int32))) (I, L) := by
  refine xe_bT 2 (A := (16, [(0, .int a0)], [], (I, L))) (B := (6, [(0, .int a0)], [], (I, L))) h1 rfl ?_
  refine xe_go 0 (s' := (17, [(0, .int a0)], [.int (0 : Int32)], (I, L))) rfl ?_
  exact xe_end rfl rfl rfl
set_option maxRecDepth 100000 in
theorem pt_X13_isSmall_1 {a0 : Int32} {I : Nat → Nat → Int32} {L : Nat → Nat → Int64} (h1 : (xe_cmp .lt a0 (97 : Int32)) = false) (h2 : (xe_cmp .gt a0 (122 : Int32)) = true) : ∃ n, xr_X13_isSmall n (0, [(0, .int a0)], [], (I, L)) (some (.int (0 : Int32))) (I, L) := by
  refine xe_bF 2 (A := (16, [(0, .int a0)], [], (I, L))) (B := (6, [(0, .int a0)], [], (I, L))) h1 rfl ?_
  refine xe_bT 2 (A := (16, [(0, .int a0)], [], (I, L))) (B := (12, [(0, .int a0)], [], (I, L))) h2 rfl ?_
  refine xe_go 0 (s' := (17, [(0, .int a0)], [.int (0 : Int32)], (I, L))) rfl ?_
  exact xe_end rfl rfl rfl
set_option maxRecDepth 100000 in
theorem pt_X13_isSmall_2 {a0 : Int32} {I : Nat → Nat → Int32} {L : Nat → Nat → Int64} (h1 : (xe_cmp .lt a0 (97 : Int32)) = false) (h2 : (xe_cmp .gt a0 (122 : Int32)) = false) : ∃ n, xr_X13_isSmall n (0, [(0, .int a0)], [], (I, L)) (some (.int (1 : Int32))) (I, L) := by
  refine xe_bF 2 (A := (16, [(0, .int a0)], [], (I, L))) (B := (6, [(0, .int a0)], [], (I, L))) h1 rfl ?_
  refine xe_bF 2 (A := (16, [(0, .int a0)], [], (I, L))) (B := (12, [(0, .int a0)], [], (I, L))) h2 rfl ?_
  refine xe_go 1 (s' := (17, [(0, .int a0)], [.int (1 : Int32)], (I, L))) rfl ?_
  exact xe_end rfl rfl rfl
def xi_X13_isDigit : List (Nat × Nat × Instr) := [(0, 1, .iload_n 0), (1, 2, .bipush 48), (3, 3, .if_icmp .lt 13), (6, 1, .iload_n 0), (7, 2, .bipush 57), (9, 3, .if_icmp .gt 7), (12, 1, .iconst 1), (13, 3, .goto 4), (16, 1, .iconst 0), (17, 1, .ireturn)]
def xg_X13_isDigit : zf_ft := []
def xp_X13_isDigit : zf_ft := []
def xv_X13_isDigit : List (Nat × Nat × xe_F) := []
def xt_X13_isDigit : List (Nat × Nat × xe_F) := []
abbrev xr_X13_isDigit := xe_run xGT xSC xRF 1 xg_X13_isDigit xp_X13_isDigit [] [] xv_X13_isDigit xt_X13_isDigit xi_X13_isDigit
def fx_X13_isDigit : xe_F := fun us hp v hp' => (us.map fun v => v.category).sum ≤ 1 ∧ xe_rt (some .boolean) v ∧ True ∧ ∃ n, xr_X13_isDigit n (0, xe_ag 0 us.reverse, [], hp) v hp'
theorem mk_X13_isDigit {a0 : Int32} {hp hp' : xe_H} {v : Option Value} (hr : xe_rt (some .boolean) v) (h : ∃ n, xr_X13_isDigit n (0, [(0, .int a0)], [], hp) v hp') : fx_X13_isDigit [.int a0] hp v hp' := ⟨Nat.le_of_ble_eq_true rfl, hr, trivial, h⟩
theorem hx_X13_isDigit : ∀ us hp v hp', fx_X13_isDigit us hp v hp' → (us.map fun v => v.category).sum ≤ 1 ∧ xe_rt (some .boolean) v ∧ ∃ n, xr_X13_isDigit n (0, xe_ag 0 us.reverse, [], hp) v hp' := fun us hp v hp' h => ⟨h.1, h.2.1, h.2.2.2⟩
set_option maxRecDepth 100000 in
set_option maxHeartbeats 4000000 in
theorem kx_X13_isDigit (l : Launch) (D : va_G) (k : Nat → ClassId) (B0 : Nat) (ad : Nat → Nat) (al sw : Nat) : xe_Con l yX13_isDigit (zw yX13_isDigit cX13_isDigit 1 (some .boolean)) ({ frames := 0, cells := 0, slots := 0, locals := 0 }) D k ad (zEx B0 ad al sw) xGT xSC xRF fx_X13_isDigit := by
  have hEx := zEx_ok B0 ad al sw
  refine xe_mk (cc := cX13_isDigit) (nL := 1) (ret := (some .boolean)) (fg := xg_X13_isDigit) (fp := xp_X13_isDigit) (sg := []) (lc := []) (cv := xv_X13_isDigit) (cs := xt_X13_isDigit) (ins := xi_X13_isDigit) (by decide) rfl hEx (by decide +kernel) hx_X13_isDigit ?_
  intro p e s m args below meth c Q Sg w0 A θ S hK hE hAB hA hth
  refine ⟨?_, ?_, ?_, ?_, ?_, ?_⟩
  · exact zf_an
  · exact zf_an
  · exact xe_n2
  · exact xe_n3
  · exact xe_n4
  · exact xe_n4
set_option maxRecDepth 100000 in
theorem pt_X13_isDigit_0 {a0 : Int32} {I : Nat → Nat → Int32} {L : Nat → Nat → Int64} (h1 : (xe_cmp .lt a0 (48 : Int32)) = true) : ∃ n, xr_X13_isDigit n (0, [(0, .int a0)], [], (I, L)) (some (.int (0 : Int32))) (I, L) := by
  refine xe_bT 2 (A := (16, [(0, .int a0)], [], (I, L))) (B := (6, [(0, .int a0)], [], (I, L))) h1 rfl ?_
  refine xe_go 0 (s' := (17, [(0, .int a0)], [.int (0 : Int32)], (I, L))) rfl ?_
  exact xe_end rfl rfl rfl
set_option maxRecDepth 100000 in
theorem pt_X13_isDigit_1 {a0 : Int32} {I : Nat → Nat → Int32} {L : Nat → Nat → Int64} (h1 : (xe_cmp .lt a0 (48 : Int32)) = false) (h2 : (xe_cmp .gt a0 (57 : Int32)) = true) : ∃ n, xr_X13_isDigit n (0, [(0, .int a0)], [], (I, L)) (some (.int (0 : Int32))) (I, L) := by
  refine xe_bF 2 (A := (16, [(0, .int a0)], [], (I, L))) (B := (6, [(0, .int a0)], [], (I, L))) h1 rfl ?_
  refine xe_bT 2 (A := (16, [(0, .int a0)], [], (I, L))) (B := (12, [(0, .int a0)], [], (I, L))) h2 rfl ?_
  refine xe_go 0 (s' := (17, [(0, .int a0)], [.int (0 : Int32)], (I, L))) rfl ?_
  exact xe_end rfl rfl rfl
set_option maxRecDepth 100000 in
theorem pt_X13_isDigit_2 {a0 : Int32} {I : Nat → Nat → Int32} {L : Nat → Nat → Int64} (h1 : (xe_cmp .lt a0 (48 : Int32)) = false) (h2 : (xe_cmp .gt a0 (57 : Int32)) = false) : ∃ n, xr_X13_isDigit n (0, [(0, .int a0)], [], (I, L)) (some (.int (1 : Int32))) (I, L) := by
  refine xe_bF 2 (A := (16, [(0, .int a0)], [], (I, L))) (B := (6, [(0, .int a0)], [], (I, L))) h1 rfl ?_
  refine xe_bF 2 (A := (16, [(0, .int a0)], [], (I, L))) (B := (12, [(0, .int a0)], [], (I, L))) h2 rfl ?_
  refine xe_go 1 (s' := (17, [(0, .int a0)], [.int (1 : Int32)], (I, L))) rfl ?_
  exact xe_end rfl rfl rfl
def xi_X13_next : List (Nat × Nat × Instr) := [(0, 1, .aload_n 0), (1, 3, .invokevirtual 130), (4, 2, .bipush 32), (6, 3, .if_icmp .eq 12), (9, 1, .aload_n 0), (10, 3, .invokevirtual 130), (13, 2, .bipush 10), (15, 3, .if_icmp .ne 16), (18, 1, .aload_n 0), (19, 1, .dup), (20, 3, .getfield 21), (23, 1, .iconst 1), (24, 1, .iadd), (25, 3, .putfield 21), (28, 3, .goto (-28)), (31, 1, .aload_n 0), (32, 1, .aload_n 0), (33, 3, .getfield 21), (36, 3, .putfield 134), (39, 1, .aload_n 0), (40, 1, .iconst 0), (41, 3, .putfield 137), (44, 1, .aload_n 0), (45, 3, .getfield 18), (48, 1, .aload_n 0), (49, 3, .getfield 24), (52, 3, .if_icmp .le 28), (55, 1, .aload_n 0), (56, 3, .getfield 21), (59, 1, .aload_n 0), (60, 3, .getfield 24), (63, 3, .if_icmp .lt 17), (66, 1, .aload_n 0), (67, 1, .aload_n 0), (68, 3, .getfield 24), (71, 3, .putfield 134), (74, 1, .aload_n 0), (75, 1, .iconst 4), (76, 3, .putfield 140), (79, 1, .return_), (80, 1, .aload_n 0), (81, 3, .invokevirtual 130), (84, 1, .istore_n 1), (85, 1, .iload_n 1), (86, 3, .ifCond .ge 9), (89, 1, .aload_n 0), (90, 1, .iconst 0), (91, 3, .putfield 140), (94, 1, .return_), (95, 1, .iload_n 1), (96, 3, .invokestatic 143), (99, 3, .ifCond .ne 65), (102, 1, .iload_n 1), (103, 3, .invokestatic 147), (106, 3, .ifCond .ne 58), (109, 1, .aload_n 0), (110, 1, .iload_n 1), (111, 2, .bipush 59), (113, 3, .if_icmp .eq 27), (116, 1, .iload_n 1), (117, 2, .bipush 40), (119, 3, .if_icmp .eq 21), (122, 1, .iload_n 1), (123, 2, .bipush 41), (125, 3, .if_icmp .eq 15), (128, 1, .iload_n 1), (129, 2, .bipush 60), (131, 3, .if_icmp .lt 13), (134, 1, .iload_n 1), (135, 2, .bipush 62), (137, 3, .if_icmp .gt 7), (140, 1, .iconst 3), (141, 3, .goto 4), (144, 1, .iconst 4), (145, 3, .putfield 140), (148, 1, .aload_n 0), (149, 1, .iload_n 1), (150, 3, .putfield 150), (153, 1, .aload_n 0), (154, 1, .dup), (155, 3, .getfield 21), (158, 1, .iconst 1), (159, 1, .iadd), (160, 3, .putfield 21), (163, 1, .return_), (164, 1, .iload_n 1), (165, 3, .invokestatic 143), (168, 1, .istore_n 2), (169, 1, .iconst 1), (170, 1, .istore_n 3), (171, 1, .aload_n 0), (172, 1, .lconst 0), (173, 3, .putfield 153), (176, 1, .aload_n 0), (177, 1, .iconst 0), (178, 3, .putfield 150), (181, 1, .aload_n 0), (182, 3, .invokevirtual 130), (185, 3, .invokestatic 143), (188, 3, .ifCond .ne 13), (191, 1, .aload_n 0), (192, 3, .invokevirtual 130), (195, 3, .invokestatic 147), (198, 3, .ifCond .eq 100), (201, 1, .iload_n 3), (202, 3, .ifCond .eq 18), (205, 1, .aload_n 0), (206, 3, .invokevirtual 130), (209, 3, .invokestatic 143), (212, 1, .iload_n 2), (213, 3, .if_icmp .ne 7), (216, 1, .iconst 1), (217, 3, .goto 4), (220, 1, .iconst 0), (221, 1, .istore_n 3), (222, 1, .aload_n 0), (223, 3, .getfield 137), (226, 2, .bipush 7), (228, 3, .if_icmp .ge 20), (231, 1, .aload_n 0), (232, 1, .aload_n 0), (233, 3, .getfield 153), (236, 2, .bipush 8), (238, 1, .lshl), (239, 1, .aload_n 0), (240, 3, .invokevirtual 130), (243, 1, .i2l), (244, 1, .lor), (245, 3, .putfield 153), (248, 1, .aload_n 0), (249, 3, .getfield 137), (252, 1, .iconst 3), (253, 3, .if_icmp .ge 22), (256, 1, .aload_n 0), (257, 2, .bipush 10), (259, 1, .aload_n 0), (260, 3, .getfield 150), (263, 1, .imul), (264, 1, .aload_n 0), (265, 3, .invokevirtual 130), (268, 1, .iadd), (269, 2, .bipush 48), (271, 1, .isub), (272, 3, .putfield 150), (275, 1, .aload_n 0), (276, 1, .dup), (277, 3, .getfield 137), (280, 1, .iconst 1), (281, 1, .iadd), (282, 3, .putfield 137), (285, 1, .aload_n 0), (286, 1, .dup), (287, 3, .getfield 21), (290, 1, .iconst 1), (291, 1, .iadd), (292, 3, .putfield 21), (295, 3, .goto (-114)), (298, 1, .aload_n 0), (299, 3, .getfield 137), (302, 2, .bipush 7), (304, 3, .if_icmp .le 10), (307, 1, .aload_n 0), (308, 3, .ldc2_w 157), (311, 3, .putfield 153), (314, 1, .aload_n 0), (315, 1, .iload_n 3), (316, 3, .ifCond .eq 20), (319, 1, .aload_n 0), (320, 3, .getfield 137), (323, 1, .iload_n 2), (324, 3, .ifCond .eq 8), (327, 2, .bipush 12), (329, 3, .goto 4), (332, 1, .iconst 3), (333, 3, .if_icmp .le 7), (336, 1, .iconst 4), (337, 3, .goto 12), (340, 1, .iload_n 2), (341, 3, .ifCond .eq 7), (344, 1, .iconst 1), (345, 3, .goto 4), (348, 1, .iconst 2), (349, 3, .putfield 140), (352, 1, .return_)]
def xg_X13_next : zf_ft := [(21, 11, 4, .inl (0, 0)), (18, 11, 3, .inl (0, 0)), (24, 11, 5, .inl (0, 0)), (137, 11, 13, .inl (0, 0)), (153, 11, 17, .inl (0, 0)), (150, 11, 14, .inl (0, 0))]
def xp_X13_next : zf_ft := [(21, 11, 4, .inl ((-2147483648), 2147483647)), (134, 11, 12, .inl ((-2147483648), 2147483647)), (137, 11, 13, .inl ((-2147483648), 2147483647)), (140, 11, 11, .inl ((-2147483648), 2147483647)), (150, 11, 14, .inl ((-2147483648), 2147483647)), (153, 11, 17, .inr none)]
def xv_X13_next : List (Nat × Nat × xe_F) := [(130, 1, fx_X13_peek)]
def xt_X13_next : List (Nat × Nat × xe_F) := [(143, 1, fx_X13_isSmall), (147, 1, fx_X13_isDigit)]
abbrev xr_X13_next := xe_run xGT xSC xRF 4 xg_X13_next xp_X13_next [] [(157, (-1))] xv_X13_next xt_X13_next xi_X13_next
def fx_X13_next : xe_F := fun us hp v hp' => (us.map fun v => v.category).sum ≤ 4 ∧ xe_rt none v ∧ (∃ ar, us = ar ++ [.ref 18]) ∧ ∃ n, xr_X13_next n (0, xe_ag 0 us.reverse, [], hp) v hp'
theorem mk_X13_next  {hp hp' : xe_H} {v : Option Value} (hr : xe_rt none v) (h : ∃ n, xr_X13_next n (0, [(0, .ref 18)], [], hp) v hp') : fx_X13_next [.ref 18] hp v hp' := ⟨Nat.le_of_ble_eq_true rfl, hr, ⟨[], rfl⟩, h⟩
theorem hx_X13_next : ∀ us hp v hp', fx_X13_next us hp v hp' → (us.map fun v => v.category).sum ≤ 4 ∧ xe_rt none v ∧ ∃ n, xr_X13_next n (0, xe_ag 0 us.reverse, [], hp) v hp' := fun us hp v hp' h => ⟨h.1, h.2.1, h.2.2.2⟩
theorem fr_X13_next : ∀ us hp v hp', fx_X13_next us hp v hp' → ∃ ar, us = ar ++ [.ref 18] := fun us hp v hp' h => h.2.2.1
set_option maxRecDepth 100000 in
set_option maxHeartbeats 4000000 in
theorem kx_X13_next (l : Launch) (D : va_G) (k : Nat → ClassId) (B0 : Nat) (ad : Nat → Nat) (al sw : Nat) : xe_Con l yX13_next (zw yX13_next cX13_next 4 none) ({ frames := 1, cells := 0, slots := 0, locals := 20 }) D k ad (zEx B0 ad al sw) xGT xSC xRF fx_X13_next := by
  have hEx := zEx_ok B0 ad al sw
  refine xe_mk (cc := cX13_next) (nL := 4) (ret := none) (fg := xg_X13_next) (fp := xp_X13_next) (sg := []) (lc := [(157, (-1))]) (cv := xv_X13_next) (cs := xt_X13_next) (ins := xi_X13_next) (by decide) rfl hEx (by decide +kernel) hx_X13_next ?_
  intro p e s m args below meth c Q Sg w0 A θ S hK hE hAB hA hth
  refine ⟨?_, ?_, ?_, ?_, ?_, ?_⟩
  · exact zf_ac ((fun H locs ws a q0 fs v rest pc ls hP he hv hdg kk => va_get (D := D) (ci := 11) (C := RX13) (T := TX13) (N := 47) (own := RX13) S.1 S.2.1 S.2.2.2.2 (zg_in inW_X13) S.2.2.2.1 hK hP q0 he rfl 4 (by decide) (S.2.2.2.2 (.fieldLink RX13 21 "RungMoneyModel" "p" "I") (List.mem_cons_of_mem _ zw_1352)) (fun _ h9 => h9) hv hdg kk)) (zf_ac ((fun H locs ws a q0 fs v rest pc ls hP he hv hdg kk => va_get (D := D) (ci := 11) (C := RX13) (T := TX13) (N := 47) (own := RX13) S.1 S.2.1 S.2.2.2.2 (zg_in inW_X13) S.2.2.2.1 hK hP q0 he rfl 3 (by decide) (S.2.2.2.2 (.fieldLink RX13 18 "RungMoneyModel" "size" "I") (List.mem_cons_of_mem _ zw_1351)) (fun _ h9 => h9) hv hdg kk)) (zf_ac ((fun H locs ws a q0 fs v rest pc ls hP he hv hdg kk => va_get (D := D) (ci := 11) (C := RX13) (T := TX13) (N := 47) (own := RX13) S.1 S.2.1 S.2.2.2.2 (zg_in inW_X13) S.2.2.2.1 hK hP q0 he rfl 5 (by decide) (S.2.2.2.2 (.fieldLink RX13 24 "RungMoneyModel" "limit" "I") (List.mem_cons_of_mem _ zw_1353)) (fun _ h9 => h9) hv hdg kk)) (zf_ac ((fun H locs ws a q0 fs v rest pc ls hP he hv hdg kk => va_get (D := D) (ci := 11) (C := RX13) (T := TX13) (N := 47) (own := RX13) S.1 S.2.1 S.2.2.2.2 (zg_in inW_X13) S.2.2.2.1 hK hP q0 he rfl 13 (by decide) (S.2.2.2.2 (.fieldLink RX13 137 "RungMoneyModel" "span" "I") (List.mem_cons_of_mem _ zw_1361)) (fun _ h9 => h9) hv hdg kk)) (zf_ac ((fun H locs ws a q0 fs v rest pc ls hP he hv hdg kk => va_get (D := D) (ci := 11) (C := RX13) (T := TX13) (N := 47) (own := RX13) S.1 S.2.1 S.2.2.2.2 (zg_in inW_X13) S.2.2.2.1 hK hP q0 he rfl 17 (by decide) (S.2.2.2.2 (.fieldLink RX13 153 "RungMoneyModel" "word" "J") (List.mem_cons_of_mem _ zw_1365)) (fun _ h9 => h9) hv hdg kk)) (zf_ac ((fun H locs ws a q0 fs v rest pc ls hP he hv hdg kk => va_get (D := D) (ci := 11) (C := RX13) (T := TX13) (N := 47) (own := RX13) S.1 S.2.1 S.2.2.2.2 (zg_in inW_X13) S.2.2.2.1 hK hP q0 he rfl 14 (by decide) (S.2.2.2.2 (.fieldLink RX13 150 "RungMoneyModel" "number" "I") (List.mem_cons_of_mem _ zw_1362)) (fun _ h9 => h9) hv hdg kk)) zf_an)))))
  · exact zf_ac ((fun H locs ws a q0 fs v rest pc ls hP hD hS he hl hv hdg kk => by obtain ⟨x, rfl, h1, h2⟩ := hv; exact va_put (D := D) (ci := 11) (v := .int x) (ty := .int) (C := RX13) (T := TX13) (N := 47) (own := RX13) S.1 S.2.1 S.2.2.2.2 (zg_in inW_X13) tyX13 tyX13_ok nmX13 S.2.2.2.1 hK hP hD hS q0 he rfl 4 (by decide) (S.2.2.2.2 (.fieldLink RX13 21 "RungMoneyModel" "p" "I") (List.mem_cons_of_mem _ zw_1352)) (fun _ h9 => h9) rfl (by decide +kernel) rfl rfl hl hdg kk)) (zf_ac ((fun H locs ws a q0 fs v rest pc ls hP hD hS he hl hv hdg kk => by obtain ⟨x, rfl, h1, h2⟩ := hv; exact va_put (D := D) (ci := 11) (v := .int x) (ty := .int) (C := RX13) (T := TX13) (N := 47) (own := RX13) S.1 S.2.1 S.2.2.2.2 (zg_in inW_X13) tyX13 tyX13_ok nmX13 S.2.2.2.1 hK hP hD hS q0 he rfl 12 (by decide) (S.2.2.2.2 (.fieldLink RX13 134 "RungMoneyModel" "at" "I") (List.mem_cons_of_mem _ zw_1360)) (fun _ h9 => h9) rfl (by decide +kernel) rfl rfl hl hdg kk)) (zf_ac ((fun H locs ws a q0 fs v rest pc ls hP hD hS he hl hv hdg kk => by obtain ⟨x, rfl, h1, h2⟩ := hv; exact va_put (D := D) (ci := 11) (v := .int x) (ty := .int) (C := RX13) (T := TX13) (N := 47) (own := RX13) S.1 S.2.1 S.2.2.2.2 (zg_in inW_X13) tyX13 tyX13_ok nmX13 S.2.2.2.1 hK hP hD hS q0 he rfl 13 (by decide) (S.2.2.2.2 (.fieldLink RX13 137 "RungMoneyModel" "span" "I") (List.mem_cons_of_mem _ zw_1361)) (fun _ h9 => h9) rfl (by decide +kernel) rfl rfl hl hdg kk)) (zf_ac ((fun H locs ws a q0 fs v rest pc ls hP hD hS he hl hv hdg kk => by obtain ⟨x, rfl, h1, h2⟩ := hv; exact va_put (D := D) (ci := 11) (v := .int x) (ty := .int) (C := RX13) (T := TX13) (N := 47) (own := RX13) S.1 S.2.1 S.2.2.2.2 (zg_in inW_X13) tyX13 tyX13_ok nmX13 S.2.2.2.1 hK hP hD hS q0 he rfl 11 (by decide) (S.2.2.2.2 (.fieldLink RX13 140 "RungMoneyModel" "token" "I") (List.mem_cons_of_mem _ zw_1359)) (fun _ h9 => h9) rfl (by decide +kernel) rfl rfl hl hdg kk)) (zf_ac ((fun H locs ws a q0 fs v rest pc ls hP hD hS he hl hv hdg kk => by obtain ⟨x, rfl, h1, h2⟩ := hv; exact va_put (D := D) (ci := 11) (v := .int x) (ty := .int) (C := RX13) (T := TX13) (N := 47) (own := RX13) S.1 S.2.1 S.2.2.2.2 (zg_in inW_X13) tyX13 tyX13_ok nmX13 S.2.2.2.1 hK hP hD hS q0 he rfl 14 (by decide) (S.2.2.2.2 (.fieldLink RX13 150 "RungMoneyModel" "number" "I") (List.mem_cons_of_mem _ zw_1362)) (fun _ h9 => h9) rfl (by decide +kernel) rfl rfl hl hdg kk)) (zf_ac ((fun H locs ws a q0 fs v rest pc ls hP hD hS he hl hv hdg kk => by obtain ⟨x, rfl⟩ := hv; exact va_put (D := D) (ci := 11) (v := .long x) (ty := .long) (C := RX13) (T := TX13) (N := 47) (own := RX13) S.1 S.2.1 S.2.2.2.2 (zg_in inW_X13) tyX13 tyX13_ok nmX13 S.2.2.2.1 hK hP hD hS q0 he rfl 17 (by decide) (S.2.2.2.2 (.fieldLink RX13 153 "RungMoneyModel" "word" "J") (List.mem_cons_of_mem _ zw_1365)) (fun _ h9 => h9) rfl (by decide +kernel) rfl rfl hl hdg kk)) zf_an)))))
  · exact xe_n2
  · exact xe_a3 ((fun H locs rest pc ls hdg kk => lv_ldc2 S.1 S.2.1 S.2.2.2.1 (S.2.2.2.2 (.constantLong RX13 157 (-1)) (List.mem_cons_of_mem _ zw_1513)) hdg kk)) xe_n3
  · exact xe_a4 (xe_crV S hEx hE hAB hA hK hth (kx_X13_peek l D k B0 ad al sw) (cwV 0 S.2.2.2.2 (zg_V zw_1503 zw_1505 zw_28 zw_109 zw_1506) rfl rfl rfl (by decide +kernel) ⟨(Nat.le_of_ble_eq_true rfl), (Nat.le_of_ble_eq_true rfl)⟩) ⟨(Nat.le_of_ble_eq_true rfl), (Nat.le_of_ble_eq_true rfl)⟩ 11 rfl rfl 18 (by decide +kernel) fr_X13_peek) xe_n4
  · exact xe_a4 (xe_crS S hEx hE hAB hA hK hth (kx_X13_isSmall l D k B0 ad al sw) (va_cwS 1 S.2.2.2.2 (zg_S zw_1507 zw_1508 zw_109 zw_1509) rfl rfl rfl (by decide +kernel) ⟨(Nat.le_of_ble_eq_true rfl), (Nat.le_of_ble_eq_true rfl)⟩) ⟨(Nat.le_of_ble_eq_true rfl), (Nat.le_of_ble_eq_true rfl)⟩) (xe_a4 (xe_crS S hEx hE hAB hA hK hth (kx_X13_isDigit l D k B0 ad al sw) (va_cwS 1 S.2.2.2.2 (zg_S zw_1510 zw_1511 zw_109 zw_1512) rfl rfl rfl (by decide +kernel) ⟨(Nat.le_of_ble_eq_true rfl), (Nat.le_of_ble_eq_true rfl)⟩) ⟨(Nat.le_of_ble_eq_true rfl), (Nat.le_of_ble_eq_true rfl)⟩) xe_n4)
set_option maxRecDepth 100000 in
theorem pt_X13_next_0 {I I1 : Nat → Nat → Int32} {L L1 : Nat → Nat → Int64} {r1 : Int32} (c1 : fx_X13_peek [.ref 18] (I, L) (some (.int r1)) (I1, L1)) (h1 : (xe_cmp .eq r1 (32 : Int32)) = true) {v9 : Option Value} {hp9 : xe_H} (r9 : ∃ n, xr_X13_next n (0, [(0, .ref 18)], [], ((xu I1 18 4 ((I1 18 4) + (1 : Int32))), L1)) v9 hp9) : ∃ n, xr_X13_next n (0, [(0, .ref 18)], [], (I, L)) v9 hp9 := by
  refine xe_go 0 (s' := (1, [(0, .ref 18)], [.ref 18], (I, L))) rfl ?_
  refine xe_vir (n := 1) (f := fx_X13_peek) rfl (Nat.le_of_ble_eq_true rfl) (List.mem_of_getElem? (i := 0) rfl) (Nat.le_of_ble_eq_true rfl) c1 ?_
  refine xe_bT 1 (A := (18, [(0, .ref 18)], [], (I1, L1))) (B := (9, [(0, .ref 18)], [], (I1, L1))) h1 rfl ?_
  refine xe_go 6 (s' := (0, [(0, .ref 18)], [], ((xu I1 18 4 ((I1 18 4) + (1 : Int32))), L1))) rfl ?_
  exact xe_nrm [0] rfl r9
set_option maxRecDepth 100000 in
theorem pt_X13_next_1 {I I1 I2 : Nat → Nat → Int32} {L L1 L2 : Nat → Nat → Int64} {r1 r2 : Int32} (c1 : fx_X13_peek [.ref 18] (I, L) (some (.int r1)) (I1, L1)) (h1 : (xe_cmp .eq r1 (32 : Int32)) = false) (c2 : fx_X13_peek [.ref 18] (I1, L1) (some (.int r2)) (I2, L2)) (h2 : (xe_cmp .ne r2 (10 : Int32)) = true) {v9 : Option Value} {hp9 : xe_H} (r9 : ∃ n, xr_X13_next n (31, [(0, .ref 18)], [], (I2, L2)) v9 hp9) : ∃ n, xr_X13_next n (0, [(0, .ref 18)], [], (I, L)) v9 hp9 := by
  refine xe_go 0 (s' := (1, [(0, .ref 18)], [.ref 18], (I, L))) rfl ?_
  refine xe_vir (n := 1) (f := fx_X13_peek) rfl (Nat.le_of_ble_eq_true rfl) (List.mem_of_getElem? (i := 0) rfl) (Nat.le_of_ble_eq_true rfl) c1 ?_
  refine xe_bF 1 (A := (18, [(0, .ref 18)], [], (I1, L1))) (B := (9, [(0, .ref 18)], [], (I1, L1))) h1 rfl ?_
  refine xe_go 0 (s' := (10, [(0, .ref 18)], [.ref 18], (I1, L1))) rfl ?_
  refine xe_vir (n := 1) (f := fx_X13_peek) rfl (Nat.le_of_ble_eq_true rfl) (List.mem_of_getElem? (i := 0) rfl) (Nat.le_of_ble_eq_true rfl) c2 ?_
  refine xe_bT 1 (A := (31, [(0, .ref 18)], [], (I2, L2))) (B := (18, [(0, .ref 18)], [], (I2, L2))) h2 rfl ?_
  exact xe_nrm [0] rfl r9
set_option maxRecDepth 100000 in
theorem pt_X13_next_2 {I I1 I2 : Nat → Nat → Int32} {L L1 L2 : Nat → Nat → Int64} {r1 r2 : Int32} (c1 : fx_X13_peek [.ref 18] (I, L) (some (.int r1)) (I1, L1)) (h1 : (xe_cmp .eq r1 (32 : Int32)) = false) (c2 : fx_X13_peek [.ref 18] (I1, L1) (some (.int r2)) (I2, L2)) (h2 : (xe_cmp .ne r2 (10 : Int32)) = false) {v9 : Option Value} {hp9 : xe_H} (r9 : ∃ n, xr_X13_next n (0, [(0, .ref 18)], [], ((xu I2 18 4 ((I2 18 4) + (1 : Int32))), L2)) v9 hp9) : ∃ n, xr_X13_next n (0, [(0, .ref 18)], [], (I, L)) v9 hp9 := by
  refine xe_go 0 (s' := (1, [(0, .ref 18)], [.ref 18], (I, L))) rfl ?_
  refine xe_vir (n := 1) (f := fx_X13_peek) rfl (Nat.le_of_ble_eq_true rfl) (List.mem_of_getElem? (i := 0) rfl) (Nat.le_of_ble_eq_true rfl) c1 ?_
  refine xe_bF 1 (A := (18, [(0, .ref 18)], [], (I1, L1))) (B := (9, [(0, .ref 18)], [], (I1, L1))) h1 rfl ?_
  refine xe_go 0 (s' := (10, [(0, .ref 18)], [.ref 18], (I1, L1))) rfl ?_
  refine xe_vir (n := 1) (f := fx_X13_peek) rfl (Nat.le_of_ble_eq_true rfl) (List.mem_of_getElem? (i := 0) rfl) (Nat.le_of_ble_eq_true rfl) c2 ?_
  refine xe_bF 1 (A := (31, [(0, .ref 18)], [], (I2, L2))) (B := (18, [(0, .ref 18)], [], (I2, L2))) h2 rfl ?_
  refine xe_go 6 (s' := (0, [(0, .ref 18)], [], ((xu I2 18 4 ((I2 18 4) + (1 : Int32))), L2))) rfl ?_
  exact xe_nrm [0] rfl r9
set_option maxRecDepth 100000 in
theorem pt_X13_next_3 {I : Nat → Nat → Int32} {L : Nat → Nat → Int64} (h1 : (xe_cmp .le (I 18 3) (I 18 5)) = true) {v9 : Option Value} {hp9 : xe_H} (r9 : ∃ n, xr_X13_next n (80, [(0, .ref 18)], [], ((xu (xu I 18 12 (I 18 4)) 18 13 (0 : Int32)), L)) v9 hp9) : ∃ n, xr_X13_next n (31, [(0, .ref 18)], [], (I, L)) v9 hp9 := by
  refine xe_bT 11 (A := (80, [(0, .ref 18)], [], ((xu (xu I 18 12 (I 18 4)) 18 13 (0 : Int32)), L))) (B := (55, [(0, .ref 18)], [], ((xu (xu I 18 12 (I 18 4)) 18 13 (0 : Int32)), L))) h1 rfl ?_
  exact xe_nrm [0] rfl r9
set_option maxRecDepth 100000 in
theorem pt_X13_next_4 {I : Nat → Nat → Int32} {L : Nat → Nat → Int64} (h1 : (xe_cmp .le (I 18 3) (I 18 5)) = false) (h2 : (xe_cmp .lt (I 18 4) (I 18 5)) = true) {v9 : Option Value} {hp9 : xe_H} (r9 : ∃ n, xr_X13_next n (80, [(0, .ref 18)], [], ((xu (xu I 18 12 (I 18 4)) 18 13 (0 : Int32)), L)) v9 hp9) : ∃ n, xr_X13_next n (31, [(0, .ref 18)], [], (I, L)) v9 hp9 := by
  refine xe_bF 11 (A := (80, [(0, .ref 18)], [], ((xu (xu I 18 12 (I 18 4)) 18 13 (0 : Int32)), L))) (B := (55, [(0, .ref 18)], [], ((xu (xu I 18 12 (I 18 4)) 18 13 (0 : Int32)), L))) h1 rfl ?_
  refine xe_bT 4 (A := (80, [(0, .ref 18)], [], ((xu (xu I 18 12 (I 18 4)) 18 13 (0 : Int32)), L))) (B := (66, [(0, .ref 18)], [], ((xu (xu I 18 12 (I 18 4)) 18 13 (0 : Int32)), L))) h2 rfl ?_
  exact xe_nrm [0] rfl r9
set_option maxRecDepth 100000 in
theorem pt_X13_next_5 {I : Nat → Nat → Int32} {L : Nat → Nat → Int64} (h1 : (xe_cmp .le (I 18 3) (I 18 5)) = false) (h2 : (xe_cmp .lt (I 18 4) (I 18 5)) = false) : ∃ n, xr_X13_next n (31, [(0, .ref 18)], [], (I, L)) none ((xu (xu (xu (xu I 18 12 (I 18 4)) 18 13 (0 : Int32)) 18 12 (I 18 5)) 18 11 (4 : Int32)), L) := by
  refine xe_bF 11 (A := (80, [(0, .ref 18)], [], ((xu (xu I 18 12 (I 18 4)) 18 13 (0 : Int32)), L))) (B := (55, [(0, .ref 18)], [], ((xu (xu I 18 12 (I 18 4)) 18 13 (0 : Int32)), L))) h1 rfl ?_
  refine xe_bF 4 (A := (80, [(0, .ref 18)], [], ((xu (xu I 18 12 (I 18 4)) 18 13 (0 : Int32)), L))) (B := (66, [(0, .ref 18)], [], ((xu (xu I 18 12 (I 18 4)) 18 13 (0 : Int32)), L))) h2 rfl ?_
  refine xe_go 6 (s' := (79, [(0, .ref 18)], [], ((xu (xu (xu (xu I 18 12 (I 18 4)) 18 13 (0 : Int32)) 18 12 (I 18 5)) 18 11 (4 : Int32)), L))) rfl ?_
  exact xe_end rfl rfl rfl
set_option maxRecDepth 100000 in
theorem pt_X13_next_6 {I I1 I2 : Nat → Nat → Int32} {L L1 L2 : Nat → Nat → Int64} {r1 : Int32} (c1 : fx_X13_peek [.ref 18] (I, L) (some (.int r1)) (I1, L1)) (h1 : (xe_cmp .ge r1 0) = true) (c2 : fx_X13_isSmall [.int r1] (I1, L1) (some (.int 1)) (I2, L2)) {v9 : Option Value} {hp9 : xe_H} (r9 : ∃ n, xr_X13_next n (164, [(0, .ref 18), (1, .int r1)], [], (I2, L2)) v9 hp9) : ∃ n, xr_X13_next n (80, [(0, .ref 18)], [], (I, L)) v9 hp9 := by
  refine xe_go 0 (s' := (81, [(0, .ref 18)], [.ref 18], (I, L))) rfl ?_
  refine xe_vir (n := 1) (f := fx_X13_peek) rfl (Nat.le_of_ble_eq_true rfl) (List.mem_of_getElem? (i := 0) rfl) (Nat.le_of_ble_eq_true rfl) c1 ?_
  refine xe_bT 2 (A := (95, [(0, .ref 18), (1, .int r1)], [], (I1, L1))) (B := (89, [(0, .ref 18), (1, .int r1)], [], (I1, L1))) h1 rfl ?_
  refine xe_go 0 (s' := (96, [(0, .ref 18), (1, .int r1)], [.int r1], (I1, L1))) rfl ?_
  refine xe_sta (n := 1) (f := fx_X13_isSmall) rfl (Nat.le_of_ble_eq_true rfl) (List.mem_of_getElem? (i := 0) rfl) (Nat.le_of_ble_eq_true rfl) c2 ?_
  refine xe_go 0 (s' := (164, [(0, .ref 18), (1, .int r1)], [], (I2, L2))) rfl ?_
  exact xe_nrm [0, 1] rfl r9
set_option maxRecDepth 100000 in
theorem pt_X13_next_7 {I I1 I2 I3 : Nat → Nat → Int32} {L L1 L2 L3 : Nat → Nat → Int64} {r1 : Int32} (c1 : fx_X13_peek [.ref 18] (I, L) (some (.int r1)) (I1, L1)) (h1 : (xe_cmp .ge r1 0) = true) (c2 : fx_X13_isSmall [.int r1] (I1, L1) (some (.int 0)) (I2, L2)) (c3 : fx_X13_isDigit [.int r1] (I2, L2) (some (.int 1)) (I3, L3)) {v9 : Option Value} {hp9 : xe_H} (r9 : ∃ n, xr_X13_next n (164, [(0, .ref 18), (1, .int r1)], [], (I3, L3)) v9 hp9) : ∃ n, xr_X13_next n (80, [(0, .ref 18)], [], (I, L)) v9 hp9 := by
  refine xe_go 0 (s' := (81, [(0, .ref 18)], [.ref 18], (I, L))) rfl ?_
  refine xe_vir (n := 1) (f := fx_X13_peek) rfl (Nat.le_of_ble_eq_true rfl) (List.mem_of_getElem? (i := 0) rfl) (Nat.le_of_ble_eq_true rfl) c1 ?_
  refine xe_bT 2 (A := (95, [(0, .ref 18), (1, .int r1)], [], (I1, L1))) (B := (89, [(0, .ref 18), (1, .int r1)], [], (I1, L1))) h1 rfl ?_
  refine xe_go 0 (s' := (96, [(0, .ref 18), (1, .int r1)], [.int r1], (I1, L1))) rfl ?_
  refine xe_sta (n := 1) (f := fx_X13_isSmall) rfl (Nat.le_of_ble_eq_true rfl) (List.mem_of_getElem? (i := 0) rfl) (Nat.le_of_ble_eq_true rfl) c2 ?_
  refine xe_go 1 (s' := (103, [(0, .ref 18), (1, .int r1)], [.int r1], (I2, L2))) rfl ?_
  refine xe_sta (n := 1) (f := fx_X13_isDigit) rfl (Nat.le_of_ble_eq_true rfl) (List.mem_of_getElem? (i := 1) rfl) (Nat.le_of_ble_eq_true rfl) c3 ?_
  refine xe_go 0 (s' := (164, [(0, .ref 18), (1, .int r1)], [], (I3, L3))) rfl ?_
  exact xe_nrm [0, 1] rfl r9
set_option maxRecDepth 100000 in
theorem pt_X13_next_8 {I I1 I2 I3 : Nat → Nat → Int32} {L L1 L2 L3 : Nat → Nat → Int64} {r1 : Int32} (c1 : fx_X13_peek [.ref 18] (I, L) (some (.int r1)) (I1, L1)) (h1 : (xe_cmp .ge r1 0) = true) (c2 : fx_X13_isSmall [.int r1] (I1, L1) (some (.int 0)) (I2, L2)) (c3 : fx_X13_isDigit [.int r1] (I2, L2) (some (.int 0)) (I3, L3)) (h2 : (xe_cmp .eq r1 (59 : Int32)) = true) {v9 : Option Value} {hp9 : xe_H} (r9 : ∃ n, xr_X13_next n (145, [(0, .ref 18), (1, .int r1)], [.int (3 : Int32), .ref 18], (I3, L3)) v9 hp9) : ∃ n, xr_X13_next n (80, [(0, .ref 18)], [], (I, L)) v9 hp9 := by
  refine xe_go 0 (s' := (81, [(0, .ref 18)], [.ref 18], (I, L))) rfl ?_
  refine xe_vir (n := 1) (f := fx_X13_peek) rfl (Nat.le_of_ble_eq_true rfl) (List.mem_of_getElem? (i := 0) rfl) (Nat.le_of_ble_eq_true rfl) c1 ?_
  refine xe_bT 2 (A := (95, [(0, .ref 18), (1, .int r1)], [], (I1, L1))) (B := (89, [(0, .ref 18), (1, .int r1)], [], (I1, L1))) h1 rfl ?_
  refine xe_go 0 (s' := (96, [(0, .ref 18), (1, .int r1)], [.int r1], (I1, L1))) rfl ?_
  refine xe_sta (n := 1) (f := fx_X13_isSmall) rfl (Nat.le_of_ble_eq_true rfl) (List.mem_of_getElem? (i := 0) rfl) (Nat.le_of_ble_eq_true rfl) c2 ?_
  refine xe_go 1 (s' := (103, [(0, .ref 18), (1, .int r1)], [.int r1], (I2, L2))) rfl ?_
  refine xe_sta (n := 1) (f := fx_X13_isDigit) rfl (Nat.le_of_ble_eq_true rfl) (List.mem_of_getElem? (i := 1) rfl) (Nat.le_of_ble_eq_true rfl) c3 ?_
  refine xe_bT 4 (A := (140, [(0, .ref 18), (1, .int r1)], [.ref 18], (I3, L3))) (B := (116, [(0, .ref 18), (1, .int r1)], [.ref 18], (I3, L3))) h2 rfl ?_
  refine xe_go 1 (s' := (145, [(0, .ref 18), (1, .int r1)], [.int (3 : Int32), .ref 18], (I3, L3))) rfl ?_
  exact xe_nrm [0, 1] rfl r9
set_option maxRecDepth 100000 in
theorem pt_X13_next_9 {I I1 I2 I3 : Nat → Nat → Int32} {L L1 L2 L3 : Nat → Nat → Int64} {r1 : Int32} (c1 : fx_X13_peek [.ref 18] (I, L) (some (.int r1)) (I1, L1)) (h1 : (xe_cmp .ge r1 0) = true) (c2 : fx_X13_isSmall [.int r1] (I1, L1) (some (.int 0)) (I2, L2)) (c3 : fx_X13_isDigit [.int r1] (I2, L2) (some (.int 0)) (I3, L3)) (h2 : (xe_cmp .eq r1 (59 : Int32)) = false) (h3 : (xe_cmp .eq r1 (40 : Int32)) = true) {v9 : Option Value} {hp9 : xe_H} (r9 : ∃ n, xr_X13_next n (145, [(0, .ref 18), (1, .int r1)], [.int (3 : Int32), .ref 18], (I3, L3)) v9 hp9) : ∃ n, xr_X13_next n (80, [(0, .ref 18)], [], (I, L)) v9 hp9 := by
  refine xe_go 0 (s' := (81, [(0, .ref 18)], [.ref 18], (I, L))) rfl ?_
  refine xe_vir (n := 1) (f := fx_X13_peek) rfl (Nat.le_of_ble_eq_true rfl) (List.mem_of_getElem? (i := 0) rfl) (Nat.le_of_ble_eq_true rfl) c1 ?_
  refine xe_bT 2 (A := (95, [(0, .ref 18), (1, .int r1)], [], (I1, L1))) (B := (89, [(0, .ref 18), (1, .int r1)], [], (I1, L1))) h1 rfl ?_
  refine xe_go 0 (s' := (96, [(0, .ref 18), (1, .int r1)], [.int r1], (I1, L1))) rfl ?_
  refine xe_sta (n := 1) (f := fx_X13_isSmall) rfl (Nat.le_of_ble_eq_true rfl) (List.mem_of_getElem? (i := 0) rfl) (Nat.le_of_ble_eq_true rfl) c2 ?_
  refine xe_go 1 (s' := (103, [(0, .ref 18), (1, .int r1)], [.int r1], (I2, L2))) rfl ?_
  refine xe_sta (n := 1) (f := fx_X13_isDigit) rfl (Nat.le_of_ble_eq_true rfl) (List.mem_of_getElem? (i := 1) rfl) (Nat.le_of_ble_eq_true rfl) c3 ?_
  refine xe_bF 4 (A := (140, [(0, .ref 18), (1, .int r1)], [.ref 18], (I3, L3))) (B := (116, [(0, .ref 18), (1, .int r1)], [.ref 18], (I3, L3))) h2 rfl ?_
  refine xe_bT 2 (A := (140, [(0, .ref 18), (1, .int r1)], [.ref 18], (I3, L3))) (B := (122, [(0, .ref 18), (1, .int r1)], [.ref 18], (I3, L3))) h3 rfl ?_
  refine xe_go 1 (s' := (145, [(0, .ref 18), (1, .int r1)], [.int (3 : Int32), .ref 18], (I3, L3))) rfl ?_
  exact xe_nrm [0, 1] rfl r9
set_option maxRecDepth 100000 in
theorem pt_X13_next_10 {I I1 I2 I3 : Nat → Nat → Int32} {L L1 L2 L3 : Nat → Nat → Int64} {r1 : Int32} (c1 : fx_X13_peek [.ref 18] (I, L) (some (.int r1)) (I1, L1)) (h1 : (xe_cmp .ge r1 0) = true) (c2 : fx_X13_isSmall [.int r1] (I1, L1) (some (.int 0)) (I2, L2)) (c3 : fx_X13_isDigit [.int r1] (I2, L2) (some (.int 0)) (I3, L3)) (h2 : (xe_cmp .eq r1 (59 : Int32)) = false) (h3 : (xe_cmp .eq r1 (40 : Int32)) = false) (h4 : (xe_cmp .eq r1 (41 : Int32)) = true) {v9 : Option Value} {hp9 : xe_H} (r9 : ∃ n, xr_X13_next n (145, [(0, .ref 18), (1, .int r1)], [.int (3 : Int32), .ref 18], (I3, L3)) v9 hp9) : ∃ n, xr_X13_next n (80, [(0, .ref 18)], [], (I, L)) v9 hp9 := by
  refine xe_go 0 (s' := (81, [(0, .ref 18)], [.ref 18], (I, L))) rfl ?_
  refine xe_vir (n := 1) (f := fx_X13_peek) rfl (Nat.le_of_ble_eq_true rfl) (List.mem_of_getElem? (i := 0) rfl) (Nat.le_of_ble_eq_true rfl) c1 ?_
  refine xe_bT 2 (A := (95, [(0, .ref 18), (1, .int r1)], [], (I1, L1))) (B := (89, [(0, .ref 18), (1, .int r1)], [], (I1, L1))) h1 rfl ?_
  refine xe_go 0 (s' := (96, [(0, .ref 18), (1, .int r1)], [.int r1], (I1, L1))) rfl ?_
  refine xe_sta (n := 1) (f := fx_X13_isSmall) rfl (Nat.le_of_ble_eq_true rfl) (List.mem_of_getElem? (i := 0) rfl) (Nat.le_of_ble_eq_true rfl) c2 ?_
  refine xe_go 1 (s' := (103, [(0, .ref 18), (1, .int r1)], [.int r1], (I2, L2))) rfl ?_
  refine xe_sta (n := 1) (f := fx_X13_isDigit) rfl (Nat.le_of_ble_eq_true rfl) (List.mem_of_getElem? (i := 1) rfl) (Nat.le_of_ble_eq_true rfl) c3 ?_
  refine xe_bF 4 (A := (140, [(0, .ref 18), (1, .int r1)], [.ref 18], (I3, L3))) (B := (116, [(0, .ref 18), (1, .int r1)], [.ref 18], (I3, L3))) h2 rfl ?_
  refine xe_bF 2 (A := (140, [(0, .ref 18), (1, .int r1)], [.ref 18], (I3, L3))) (B := (122, [(0, .ref 18), (1, .int r1)], [.ref 18], (I3, L3))) h3 rfl ?_
  refine xe_bT 2 (A := (140, [(0, .ref 18), (1, .int r1)], [.ref 18], (I3, L3))) (B := (128, [(0, .ref 18), (1, .int r1)], [.ref 18], (I3, L3))) h4 rfl ?_
  refine xe_go 1 (s' := (145, [(0, .ref 18), (1, .int r1)], [.int (3 : Int32), .ref 18], (I3, L3))) rfl ?_
  exact xe_nrm [0, 1] rfl r9
set_option maxRecDepth 100000 in
theorem pt_X13_next_11 {I I1 I2 I3 : Nat → Nat → Int32} {L L1 L2 L3 : Nat → Nat → Int64} {r1 : Int32} (c1 : fx_X13_peek [.ref 18] (I, L) (some (.int r1)) (I1, L1)) (h1 : (xe_cmp .ge r1 0) = true) (c2 : fx_X13_isSmall [.int r1] (I1, L1) (some (.int 0)) (I2, L2)) (c3 : fx_X13_isDigit [.int r1] (I2, L2) (some (.int 0)) (I3, L3)) (h2 : (xe_cmp .eq r1 (59 : Int32)) = false) (h3 : (xe_cmp .eq r1 (40 : Int32)) = false) (h4 : (xe_cmp .eq r1 (41 : Int32)) = false) (h5 : (xe_cmp .lt r1 (60 : Int32)) = true) {v9 : Option Value} {hp9 : xe_H} (r9 : ∃ n, xr_X13_next n (145, [(0, .ref 18), (1, .int r1)], [.int (4 : Int32), .ref 18], (I3, L3)) v9 hp9) : ∃ n, xr_X13_next n (80, [(0, .ref 18)], [], (I, L)) v9 hp9 := by
  refine xe_go 0 (s' := (81, [(0, .ref 18)], [.ref 18], (I, L))) rfl ?_
  refine xe_vir (n := 1) (f := fx_X13_peek) rfl (Nat.le_of_ble_eq_true rfl) (List.mem_of_getElem? (i := 0) rfl) (Nat.le_of_ble_eq_true rfl) c1 ?_
  refine xe_bT 2 (A := (95, [(0, .ref 18), (1, .int r1)], [], (I1, L1))) (B := (89, [(0, .ref 18), (1, .int r1)], [], (I1, L1))) h1 rfl ?_
  refine xe_go 0 (s' := (96, [(0, .ref 18), (1, .int r1)], [.int r1], (I1, L1))) rfl ?_
  refine xe_sta (n := 1) (f := fx_X13_isSmall) rfl (Nat.le_of_ble_eq_true rfl) (List.mem_of_getElem? (i := 0) rfl) (Nat.le_of_ble_eq_true rfl) c2 ?_
  refine xe_go 1 (s' := (103, [(0, .ref 18), (1, .int r1)], [.int r1], (I2, L2))) rfl ?_
  refine xe_sta (n := 1) (f := fx_X13_isDigit) rfl (Nat.le_of_ble_eq_true rfl) (List.mem_of_getElem? (i := 1) rfl) (Nat.le_of_ble_eq_true rfl) c3 ?_
  refine xe_bF 4 (A := (140, [(0, .ref 18), (1, .int r1)], [.ref 18], (I3, L3))) (B := (116, [(0, .ref 18), (1, .int r1)], [.ref 18], (I3, L3))) h2 rfl ?_
  refine xe_bF 2 (A := (140, [(0, .ref 18), (1, .int r1)], [.ref 18], (I3, L3))) (B := (122, [(0, .ref 18), (1, .int r1)], [.ref 18], (I3, L3))) h3 rfl ?_
  refine xe_bF 2 (A := (140, [(0, .ref 18), (1, .int r1)], [.ref 18], (I3, L3))) (B := (128, [(0, .ref 18), (1, .int r1)], [.ref 18], (I3, L3))) h4 rfl ?_
  refine xe_bT 2 (A := (144, [(0, .ref 18), (1, .int r1)], [.ref 18], (I3, L3))) (B := (134, [(0, .ref 18), (1, .int r1)], [.ref 18], (I3, L3))) h5 rfl ?_
  refine xe_go 0 (s' := (145, [(0, .ref 18), (1, .int r1)], [.int (4 : Int32), .ref 18], (I3, L3))) rfl ?_
  exact xe_nrm [0, 1] rfl r9
set_option maxRecDepth 100000 in
theorem pt_X13_next_12 {I I1 I2 I3 : Nat → Nat → Int32} {L L1 L2 L3 : Nat → Nat → Int64} {r1 : Int32} (c1 : fx_X13_peek [.ref 18] (I, L) (some (.int r1)) (I1, L1)) (h1 : (xe_cmp .ge r1 0) = true) (c2 : fx_X13_isSmall [.int r1] (I1, L1) (some (.int 0)) (I2, L2)) (c3 : fx_X13_isDigit [.int r1] (I2, L2) (some (.int 0)) (I3, L3)) (h2 : (xe_cmp .eq r1 (59 : Int32)) = false) (h3 : (xe_cmp .eq r1 (40 : Int32)) = false) (h4 : (xe_cmp .eq r1 (41 : Int32)) = false) (h5 : (xe_cmp .lt r1 (60 : Int32)) = false) (h6 : (xe_cmp .gt r1 (62 : Int32)) = true) {v9 : Option Value} {hp9 : xe_H} (r9 : ∃ n, xr_X13_next n (145, [(0, .ref 18), (1, .int r1)], [.int (4 : Int32), .ref 18], (I3, L3)) v9 hp9) : ∃ n, xr_X13_next n (80, [(0, .ref 18)], [], (I, L)) v9 hp9 := by
  refine xe_go 0 (s' := (81, [(0, .ref 18)], [.ref 18], (I, L))) rfl ?_
  refine xe_vir (n := 1) (f := fx_X13_peek) rfl (Nat.le_of_ble_eq_true rfl) (List.mem_of_getElem? (i := 0) rfl) (Nat.le_of_ble_eq_true rfl) c1 ?_
  refine xe_bT 2 (A := (95, [(0, .ref 18), (1, .int r1)], [], (I1, L1))) (B := (89, [(0, .ref 18), (1, .int r1)], [], (I1, L1))) h1 rfl ?_
  refine xe_go 0 (s' := (96, [(0, .ref 18), (1, .int r1)], [.int r1], (I1, L1))) rfl ?_
  refine xe_sta (n := 1) (f := fx_X13_isSmall) rfl (Nat.le_of_ble_eq_true rfl) (List.mem_of_getElem? (i := 0) rfl) (Nat.le_of_ble_eq_true rfl) c2 ?_
  refine xe_go 1 (s' := (103, [(0, .ref 18), (1, .int r1)], [.int r1], (I2, L2))) rfl ?_
  refine xe_sta (n := 1) (f := fx_X13_isDigit) rfl (Nat.le_of_ble_eq_true rfl) (List.mem_of_getElem? (i := 1) rfl) (Nat.le_of_ble_eq_true rfl) c3 ?_
  refine xe_bF 4 (A := (140, [(0, .ref 18), (1, .int r1)], [.ref 18], (I3, L3))) (B := (116, [(0, .ref 18), (1, .int r1)], [.ref 18], (I3, L3))) h2 rfl ?_
  refine xe_bF 2 (A := (140, [(0, .ref 18), (1, .int r1)], [.ref 18], (I3, L3))) (B := (122, [(0, .ref 18), (1, .int r1)], [.ref 18], (I3, L3))) h3 rfl ?_
  refine xe_bF 2 (A := (140, [(0, .ref 18), (1, .int r1)], [.ref 18], (I3, L3))) (B := (128, [(0, .ref 18), (1, .int r1)], [.ref 18], (I3, L3))) h4 rfl ?_
  refine xe_bF 2 (A := (144, [(0, .ref 18), (1, .int r1)], [.ref 18], (I3, L3))) (B := (134, [(0, .ref 18), (1, .int r1)], [.ref 18], (I3, L3))) h5 rfl ?_
  refine xe_bT 2 (A := (144, [(0, .ref 18), (1, .int r1)], [.ref 18], (I3, L3))) (B := (140, [(0, .ref 18), (1, .int r1)], [.ref 18], (I3, L3))) h6 rfl ?_
  refine xe_go 0 (s' := (145, [(0, .ref 18), (1, .int r1)], [.int (4 : Int32), .ref 18], (I3, L3))) rfl ?_
  exact xe_nrm [0, 1] rfl r9
set_option maxRecDepth 100000 in
theorem pt_X13_next_13 {I I1 I2 I3 : Nat → Nat → Int32} {L L1 L2 L3 : Nat → Nat → Int64} {r1 : Int32} (c1 : fx_X13_peek [.ref 18] (I, L) (some (.int r1)) (I1, L1)) (h1 : (xe_cmp .ge r1 0) = true) (c2 : fx_X13_isSmall [.int r1] (I1, L1) (some (.int 0)) (I2, L2)) (c3 : fx_X13_isDigit [.int r1] (I2, L2) (some (.int 0)) (I3, L3)) (h2 : (xe_cmp .eq r1 (59 : Int32)) = false) (h3 : (xe_cmp .eq r1 (40 : Int32)) = false) (h4 : (xe_cmp .eq r1 (41 : Int32)) = false) (h5 : (xe_cmp .lt r1 (60 : Int32)) = false) (h6 : (xe_cmp .gt r1 (62 : Int32)) = false) {v9 : Option Value} {hp9 : xe_H} (r9 : ∃ n, xr_X13_next n (145, [(0, .ref 18), (1, .int r1)], [.int (3 : Int32), .ref 18], (I3, L3)) v9 hp9) : ∃ n, xr_X13_next n (80, [(0, .ref 18)], [], (I, L)) v9 hp9 := by
  refine xe_go 0 (s' := (81, [(0, .ref 18)], [.ref 18], (I, L))) rfl ?_
  refine xe_vir (n := 1) (f := fx_X13_peek) rfl (Nat.le_of_ble_eq_true rfl) (List.mem_of_getElem? (i := 0) rfl) (Nat.le_of_ble_eq_true rfl) c1 ?_
  refine xe_bT 2 (A := (95, [(0, .ref 18), (1, .int r1)], [], (I1, L1))) (B := (89, [(0, .ref 18), (1, .int r1)], [], (I1, L1))) h1 rfl ?_
  refine xe_go 0 (s' := (96, [(0, .ref 18), (1, .int r1)], [.int r1], (I1, L1))) rfl ?_
  refine xe_sta (n := 1) (f := fx_X13_isSmall) rfl (Nat.le_of_ble_eq_true rfl) (List.mem_of_getElem? (i := 0) rfl) (Nat.le_of_ble_eq_true rfl) c2 ?_
  refine xe_go 1 (s' := (103, [(0, .ref 18), (1, .int r1)], [.int r1], (I2, L2))) rfl ?_
  refine xe_sta (n := 1) (f := fx_X13_isDigit) rfl (Nat.le_of_ble_eq_true rfl) (List.mem_of_getElem? (i := 1) rfl) (Nat.le_of_ble_eq_true rfl) c3 ?_
  refine xe_bF 4 (A := (140, [(0, .ref 18), (1, .int r1)], [.ref 18], (I3, L3))) (B := (116, [(0, .ref 18), (1, .int r1)], [.ref 18], (I3, L3))) h2 rfl ?_
  refine xe_bF 2 (A := (140, [(0, .ref 18), (1, .int r1)], [.ref 18], (I3, L3))) (B := (122, [(0, .ref 18), (1, .int r1)], [.ref 18], (I3, L3))) h3 rfl ?_
  refine xe_bF 2 (A := (140, [(0, .ref 18), (1, .int r1)], [.ref 18], (I3, L3))) (B := (128, [(0, .ref 18), (1, .int r1)], [.ref 18], (I3, L3))) h4 rfl ?_
  refine xe_bF 2 (A := (144, [(0, .ref 18), (1, .int r1)], [.ref 18], (I3, L3))) (B := (134, [(0, .ref 18), (1, .int r1)], [.ref 18], (I3, L3))) h5 rfl ?_
  refine xe_bF 2 (A := (144, [(0, .ref 18), (1, .int r1)], [.ref 18], (I3, L3))) (B := (140, [(0, .ref 18), (1, .int r1)], [.ref 18], (I3, L3))) h6 rfl ?_
  refine xe_go 1 (s' := (145, [(0, .ref 18), (1, .int r1)], [.int (3 : Int32), .ref 18], (I3, L3))) rfl ?_
  exact xe_nrm [0, 1] rfl r9
set_option maxRecDepth 100000 in
theorem pt_X13_next_14 {I I1 : Nat → Nat → Int32} {L L1 : Nat → Nat → Int64} {r1 : Int32} (c1 : fx_X13_peek [.ref 18] (I, L) (some (.int r1)) (I1, L1)) (h1 : (xe_cmp .ge r1 0) = false) : ∃ n, xr_X13_next n (80, [(0, .ref 18)], [], (I, L)) none ((xu I1 18 11 (0 : Int32)), L1) := by
  refine xe_go 0 (s' := (81, [(0, .ref 18)], [.ref 18], (I, L))) rfl ?_
  refine xe_vir (n := 1) (f := fx_X13_peek) rfl (Nat.le_of_ble_eq_true rfl) (List.mem_of_getElem? (i := 0) rfl) (Nat.le_of_ble_eq_true rfl) c1 ?_
  refine xe_bF 2 (A := (95, [(0, .ref 18), (1, .int r1)], [], (I1, L1))) (B := (89, [(0, .ref 18), (1, .int r1)], [], (I1, L1))) h1 rfl ?_
  refine xe_go 2 (s' := (94, [(0, .ref 18), (1, .int r1)], [], ((xu I1 18 11 (0 : Int32)), L1))) rfl ?_
  exact xe_end rfl rfl rfl
set_option maxRecDepth 100000 in
theorem pt_X13_next_15 {l1 : Int32} {I I1 : Nat → Nat → Int32} {L L1 : Nat → Nat → Int64} (c1 : fx_X13_isSmall [.int l1] (I, L) (some (.int 1)) (I1, L1)) {v9 : Option Value} {hp9 : xe_H} (r9 : ∃ n, xr_X13_next n (181, [(0, .ref 18), (1, .int l1), (2, .int 1), (3, .int (1 : Int32))], [], ((xu I1 18 14 (0 : Int32)), (xul L1 18 17 (Int64.ofNat 0)))) v9 hp9) : ∃ n, xr_X13_next n (164, [(0, .ref 18), (1, .int l1)], [], (I, L)) v9 hp9 := by
  refine xe_go 0 (s' := (165, [(0, .ref 18), (1, .int l1)], [.int l1], (I, L))) rfl ?_
  refine xe_sta (n := 1) (f := fx_X13_isSmall) rfl (Nat.le_of_ble_eq_true rfl) (List.mem_of_getElem? (i := 0) rfl) (Nat.le_of_ble_eq_true rfl) c1 ?_
  refine xe_go 8 (s' := (181, [(0, .ref 18), (1, .int l1), (2, .int 1), (3, .int (1 : Int32))], [], ((xu I1 18 14 (0 : Int32)), (xul L1 18 17 (Int64.ofNat 0))))) rfl ?_
  exact xe_nrm [0, 1, 2, 3] rfl r9
set_option maxRecDepth 100000 in
theorem pt_X13_next_16 {l1 : Int32} {I I1 : Nat → Nat → Int32} {L L1 : Nat → Nat → Int64} (c1 : fx_X13_isSmall [.int l1] (I, L) (some (.int 0)) (I1, L1)) {v9 : Option Value} {hp9 : xe_H} (r9 : ∃ n, xr_X13_next n (181, [(0, .ref 18), (1, .int l1), (2, .int 0), (3, .int (1 : Int32))], [], ((xu I1 18 14 (0 : Int32)), (xul L1 18 17 (Int64.ofNat 0)))) v9 hp9) : ∃ n, xr_X13_next n (164, [(0, .ref 18), (1, .int l1)], [], (I, L)) v9 hp9 := by
  refine xe_go 0 (s' := (165, [(0, .ref 18), (1, .int l1)], [.int l1], (I, L))) rfl ?_
  refine xe_sta (n := 1) (f := fx_X13_isSmall) rfl (Nat.le_of_ble_eq_true rfl) (List.mem_of_getElem? (i := 0) rfl) (Nat.le_of_ble_eq_true rfl) c1 ?_
  refine xe_go 8 (s' := (181, [(0, .ref 18), (1, .int l1), (2, .int 0), (3, .int (1 : Int32))], [], ((xu I1 18 14 (0 : Int32)), (xul L1 18 17 (Int64.ofNat 0))))) rfl ?_
  exact xe_nrm [0, 1, 2, 3] rfl r9
set_option maxRecDepth 100000 in
theorem pt_X13_next_17 {l1 s0 : Int32} {I : Nat → Nat → Int32} {L : Nat → Nat → Int64}  : ∃ n, xr_X13_next n (145, [(0, .ref 18), (1, .int l1)], [.int s0, .ref 18], (I, L)) none ((xu (xu (xu I 18 11 s0) 18 14 l1) 18 4 ((I 18 4) + (1 : Int32))), L) := by
  refine xe_go 9 (s' := (163, [(0, .ref 18), (1, .int l1)], [], ((xu (xu (xu I 18 11 s0) 18 14 l1) 18 4 ((I 18 4) + (1 : Int32))), L))) rfl ?_
  exact xe_end rfl rfl rfl
set_option maxRecDepth 100000 in
theorem pt_X13_next_18 {l1 l2 l3 r1 : Int32} {I I1 I2 : Nat → Nat → Int32} {L L1 L2 : Nat → Nat → Int64} (c1 : fx_X13_peek [.ref 18] (I, L) (some (.int r1)) (I1, L1)) (c2 : fx_X13_isSmall [.int r1] (I1, L1) (some (.int 1)) (I2, L2)) {v9 : Option Value} {hp9 : xe_H} (r9 : ∃ n, xr_X13_next n (201, [(0, .ref 18), (1, .int l1), (2, .int l2), (3, .int l3)], [], (I2, L2)) v9 hp9) : ∃ n, xr_X13_next n (181, [(0, .ref 18), (1, .int l1), (2, .int l2), (3, .int l3)], [], (I, L)) v9 hp9 := by
  refine xe_go 0 (s' := (182, [(0, .ref 18), (1, .int l1), (2, .int l2), (3, .int l3)], [.ref 18], (I, L))) rfl ?_
  refine xe_vir (n := 1) (f := fx_X13_peek) rfl (Nat.le_of_ble_eq_true rfl) (List.mem_of_getElem? (i := 0) rfl) (Nat.le_of_ble_eq_true rfl) c1 ?_
  refine xe_sta (n := 1) (f := fx_X13_isSmall) rfl (Nat.le_of_ble_eq_true rfl) (List.mem_of_getElem? (i := 0) rfl) (Nat.le_of_ble_eq_true rfl) c2 ?_
  refine xe_go 0 (s' := (201, [(0, .ref 18), (1, .int l1), (2, .int l2), (3, .int l3)], [], (I2, L2))) rfl ?_
  exact xe_nrm [0, 1, 2, 3] rfl r9
set_option maxRecDepth 100000 in
theorem pt_X13_next_19 {l1 l2 l3 r1 r3 : Int32} {I I1 I2 I3 I4 : Nat → Nat → Int32} {L L1 L2 L3 L4 : Nat → Nat → Int64} (c1 : fx_X13_peek [.ref 18] (I, L) (some (.int r1)) (I1, L1)) (c2 : fx_X13_isSmall [.int r1] (I1, L1) (some (.int 0)) (I2, L2)) (c3 : fx_X13_peek [.ref 18] (I2, L2) (some (.int r3)) (I3, L3)) (c4 : fx_X13_isDigit [.int r3] (I3, L3) (some (.int 1)) (I4, L4)) {v9 : Option Value} {hp9 : xe_H} (r9 : ∃ n, xr_X13_next n (201, [(0, .ref 18), (1, .int l1), (2, .int l2), (3, .int l3)], [], (I4, L4)) v9 hp9) : ∃ n, xr_X13_next n (181, [(0, .ref 18), (1, .int l1), (2, .int l2), (3, .int l3)], [], (I, L)) v9 hp9 := by
  refine xe_go 0 (s' := (182, [(0, .ref 18), (1, .int l1), (2, .int l2), (3, .int l3)], [.ref 18], (I, L))) rfl ?_
  refine xe_vir (n := 1) (f := fx_X13_peek) rfl (Nat.le_of_ble_eq_true rfl) (List.mem_of_getElem? (i := 0) rfl) (Nat.le_of_ble_eq_true rfl) c1 ?_
  refine xe_sta (n := 1) (f := fx_X13_isSmall) rfl (Nat.le_of_ble_eq_true rfl) (List.mem_of_getElem? (i := 0) rfl) (Nat.le_of_ble_eq_true rfl) c2 ?_
  refine xe_go 1 (s' := (192, [(0, .ref 18), (1, .int l1), (2, .int l2), (3, .int l3)], [.ref 18], (I2, L2))) rfl ?_
  refine xe_vir (n := 1) (f := fx_X13_peek) rfl (Nat.le_of_ble_eq_true rfl) (List.mem_of_getElem? (i := 0) rfl) (Nat.le_of_ble_eq_true rfl) c3 ?_
  refine xe_sta (n := 1) (f := fx_X13_isDigit) rfl (Nat.le_of_ble_eq_true rfl) (List.mem_of_getElem? (i := 1) rfl) (Nat.le_of_ble_eq_true rfl) c4 ?_
  refine xe_go 0 (s' := (201, [(0, .ref 18), (1, .int l1), (2, .int l2), (3, .int l3)], [], (I4, L4))) rfl ?_
  exact xe_nrm [0, 1, 2, 3] rfl r9
set_option maxRecDepth 100000 in
theorem pt_X13_next_20 {l1 l2 l3 r1 r3 : Int32} {I I1 I2 I3 I4 : Nat → Nat → Int32} {L L1 L2 L3 L4 : Nat → Nat → Int64} (c1 : fx_X13_peek [.ref 18] (I, L) (some (.int r1)) (I1, L1)) (c2 : fx_X13_isSmall [.int r1] (I1, L1) (some (.int 0)) (I2, L2)) (c3 : fx_X13_peek [.ref 18] (I2, L2) (some (.int r3)) (I3, L3)) (c4 : fx_X13_isDigit [.int r3] (I3, L3) (some (.int 0)) (I4, L4)) {v9 : Option Value} {hp9 : xe_H} (r9 : ∃ n, xr_X13_next n (298, [(0, .ref 18), (1, .int l1), (2, .int l2), (3, .int l3)], [], (I4, L4)) v9 hp9) : ∃ n, xr_X13_next n (181, [(0, .ref 18), (1, .int l1), (2, .int l2), (3, .int l3)], [], (I, L)) v9 hp9 := by
  refine xe_go 0 (s' := (182, [(0, .ref 18), (1, .int l1), (2, .int l2), (3, .int l3)], [.ref 18], (I, L))) rfl ?_
  refine xe_vir (n := 1) (f := fx_X13_peek) rfl (Nat.le_of_ble_eq_true rfl) (List.mem_of_getElem? (i := 0) rfl) (Nat.le_of_ble_eq_true rfl) c1 ?_
  refine xe_sta (n := 1) (f := fx_X13_isSmall) rfl (Nat.le_of_ble_eq_true rfl) (List.mem_of_getElem? (i := 0) rfl) (Nat.le_of_ble_eq_true rfl) c2 ?_
  refine xe_go 1 (s' := (192, [(0, .ref 18), (1, .int l1), (2, .int l2), (3, .int l3)], [.ref 18], (I2, L2))) rfl ?_
  refine xe_vir (n := 1) (f := fx_X13_peek) rfl (Nat.le_of_ble_eq_true rfl) (List.mem_of_getElem? (i := 0) rfl) (Nat.le_of_ble_eq_true rfl) c3 ?_
  refine xe_sta (n := 1) (f := fx_X13_isDigit) rfl (Nat.le_of_ble_eq_true rfl) (List.mem_of_getElem? (i := 1) rfl) (Nat.le_of_ble_eq_true rfl) c4 ?_
  refine xe_go 0 (s' := (298, [(0, .ref 18), (1, .int l1), (2, .int l2), (3, .int l3)], [], (I4, L4))) rfl ?_
  exact xe_nrm [0, 1, 2, 3] rfl r9
set_option maxRecDepth 100000 in
theorem pt_X13_next_21 {l1 l2 l3 : Int32} {I : Nat → Nat → Int32} {L : Nat → Nat → Int64} (h1 : (xe_cmp .eq l3 0) = true) {v9 : Option Value} {hp9 : xe_H} (r9 : ∃ n, xr_X13_next n (221, [(0, .ref 18), (1, .int l1), (2, .int l2), (3, .int l3)], [.int (0 : Int32)], (I, L)) v9 hp9) : ∃ n, xr_X13_next n (201, [(0, .ref 18), (1, .int l1), (2, .int l2), (3, .int l3)], [], (I, L)) v9 hp9 := by
  refine xe_bT 1 (A := (220, [(0, .ref 18), (1, .int l1), (2, .int l2), (3, .int l3)], [], (I, L))) (B := (205, [(0, .ref 18), (1, .int l1), (2, .int l2), (3, .int l3)], [], (I, L))) h1 rfl ?_
  refine xe_go 0 (s' := (221, [(0, .ref 18), (1, .int l1), (2, .int l2), (3, .int l3)], [.int (0 : Int32)], (I, L))) rfl ?_
  exact xe_nrm [0, 1, 2, 3] rfl r9
set_option maxRecDepth 100000 in
theorem pt_X13_next_22 {l1 l2 l3 r1 : Int32} {I I1 I2 : Nat → Nat → Int32} {L L1 L2 : Nat → Nat → Int64} (h1 : (xe_cmp .eq l3 0) = false) (c1 : fx_X13_peek [.ref 18] (I, L) (some (.int r1)) (I1, L1)) (c2 : fx_X13_isSmall [.int r1] (I1, L1) (some (.int 1)) (I2, L2)) (h2 : (xe_cmp .ne 1 l2) = true) {v9 : Option Value} {hp9 : xe_H} (r9 : ∃ n, xr_X13_next n (221, [(0, .ref 18), (1, .int l1), (2, .int l2), (3, .int l3)], [.int (0 : Int32)], (I2, L2)) v9 hp9) : ∃ n, xr_X13_next n (201, [(0, .ref 18), (1, .int l1), (2, .int l2), (3, .int l3)], [], (I, L)) v9 hp9 := by
  refine xe_bF 1 (A := (220, [(0, .ref 18), (1, .int l1), (2, .int l2), (3, .int l3)], [], (I, L))) (B := (205, [(0, .ref 18), (1, .int l1), (2, .int l2), (3, .int l3)], [], (I, L))) h1 rfl ?_
  refine xe_go 0 (s' := (206, [(0, .ref 18), (1, .int l1), (2, .int l2), (3, .int l3)], [.ref 18], (I, L))) rfl ?_
  refine xe_vir (n := 1) (f := fx_X13_peek) rfl (Nat.le_of_ble_eq_true rfl) (List.mem_of_getElem? (i := 0) rfl) (Nat.le_of_ble_eq_true rfl) c1 ?_
  refine xe_sta (n := 1) (f := fx_X13_isSmall) rfl (Nat.le_of_ble_eq_true rfl) (List.mem_of_getElem? (i := 0) rfl) (Nat.le_of_ble_eq_true rfl) c2 ?_
  refine xe_bT 1 (A := (220, [(0, .ref 18), (1, .int l1), (2, .int l2), (3, .int l3)], [], (I2, L2))) (B := (216, [(0, .ref 18), (1, .int l1), (2, .int l2), (3, .int l3)], [], (I2, L2))) h2 rfl ?_
  refine xe_go 0 (s' := (221, [(0, .ref 18), (1, .int l1), (2, .int l2), (3, .int l3)], [.int (0 : Int32)], (I2, L2))) rfl ?_
  exact xe_nrm [0, 1, 2, 3] rfl r9
set_option maxRecDepth 100000 in
theorem pt_X13_next_23 {l1 l2 l3 r1 : Int32} {I I1 I2 : Nat → Nat → Int32} {L L1 L2 : Nat → Nat → Int64} (h1 : (xe_cmp .eq l3 0) = false) (c1 : fx_X13_peek [.ref 18] (I, L) (some (.int r1)) (I1, L1)) (c2 : fx_X13_isSmall [.int r1] (I1, L1) (some (.int 1)) (I2, L2)) (h2 : (xe_cmp .ne 1 l2) = false) {v9 : Option Value} {hp9 : xe_H} (r9 : ∃ n, xr_X13_next n (221, [(0, .ref 18), (1, .int l1), (2, .int l2), (3, .int l3)], [.int (1 : Int32)], (I2, L2)) v9 hp9) : ∃ n, xr_X13_next n (201, [(0, .ref 18), (1, .int l1), (2, .int l2), (3, .int l3)], [], (I, L)) v9 hp9 := by
  refine xe_bF 1 (A := (220, [(0, .ref 18), (1, .int l1), (2, .int l2), (3, .int l3)], [], (I, L))) (B := (205, [(0, .ref 18), (1, .int l1), (2, .int l2), (3, .int l3)], [], (I, L))) h1 rfl ?_
  refine xe_go 0 (s' := (206, [(0, .ref 18), (1, .int l1), (2, .int l2), (3, .int l3)], [.ref 18], (I, L))) rfl ?_
  refine xe_vir (n := 1) (f := fx_X13_peek) rfl (Nat.le_of_ble_eq_true rfl) (List.mem_of_getElem? (i := 0) rfl) (Nat.le_of_ble_eq_true rfl) c1 ?_
  refine xe_sta (n := 1) (f := fx_X13_isSmall) rfl (Nat.le_of_ble_eq_true rfl) (List.mem_of_getElem? (i := 0) rfl) (Nat.le_of_ble_eq_true rfl) c2 ?_
  refine xe_bF 1 (A := (220, [(0, .ref 18), (1, .int l1), (2, .int l2), (3, .int l3)], [], (I2, L2))) (B := (216, [(0, .ref 18), (1, .int l1), (2, .int l2), (3, .int l3)], [], (I2, L2))) h2 rfl ?_
  refine xe_go 1 (s' := (221, [(0, .ref 18), (1, .int l1), (2, .int l2), (3, .int l3)], [.int (1 : Int32)], (I2, L2))) rfl ?_
  exact xe_nrm [0, 1, 2, 3] rfl r9
set_option maxRecDepth 100000 in
theorem pt_X13_next_24 {l1 l2 l3 r1 : Int32} {I I1 I2 : Nat → Nat → Int32} {L L1 L2 : Nat → Nat → Int64} (h1 : (xe_cmp .eq l3 0) = false) (c1 : fx_X13_peek [.ref 18] (I, L) (some (.int r1)) (I1, L1)) (c2 : fx_X13_isSmall [.int r1] (I1, L1) (some (.int 0)) (I2, L2)) (h2 : (xe_cmp .ne 0 l2) = true) {v9 : Option Value} {hp9 : xe_H} (r9 : ∃ n, xr_X13_next n (221, [(0, .ref 18), (1, .int l1), (2, .int l2), (3, .int l3)], [.int (0 : Int32)], (I2, L2)) v9 hp9) : ∃ n, xr_X13_next n (201, [(0, .ref 18), (1, .int l1), (2, .int l2), (3, .int l3)], [], (I, L)) v9 hp9 := by
  refine xe_bF 1 (A := (220, [(0, .ref 18), (1, .int l1), (2, .int l2), (3, .int l3)], [], (I, L))) (B := (205, [(0, .ref 18), (1, .int l1), (2, .int l2), (3, .int l3)], [], (I, L))) h1 rfl ?_
  refine xe_go 0 (s' := (206, [(0, .ref 18), (1, .int l1), (2, .int l2), (3, .int l3)], [.ref 18], (I, L))) rfl ?_
  refine xe_vir (n := 1) (f := fx_X13_peek) rfl (Nat.le_of_ble_eq_true rfl) (List.mem_of_getElem? (i := 0) rfl) (Nat.le_of_ble_eq_true rfl) c1 ?_
  refine xe_sta (n := 1) (f := fx_X13_isSmall) rfl (Nat.le_of_ble_eq_true rfl) (List.mem_of_getElem? (i := 0) rfl) (Nat.le_of_ble_eq_true rfl) c2 ?_
  refine xe_bT 1 (A := (220, [(0, .ref 18), (1, .int l1), (2, .int l2), (3, .int l3)], [], (I2, L2))) (B := (216, [(0, .ref 18), (1, .int l1), (2, .int l2), (3, .int l3)], [], (I2, L2))) h2 rfl ?_
  refine xe_go 0 (s' := (221, [(0, .ref 18), (1, .int l1), (2, .int l2), (3, .int l3)], [.int (0 : Int32)], (I2, L2))) rfl ?_
  exact xe_nrm [0, 1, 2, 3] rfl r9
set_option maxRecDepth 100000 in
theorem pt_X13_next_25 {l1 l2 l3 r1 : Int32} {I I1 I2 : Nat → Nat → Int32} {L L1 L2 : Nat → Nat → Int64} (h1 : (xe_cmp .eq l3 0) = false) (c1 : fx_X13_peek [.ref 18] (I, L) (some (.int r1)) (I1, L1)) (c2 : fx_X13_isSmall [.int r1] (I1, L1) (some (.int 0)) (I2, L2)) (h2 : (xe_cmp .ne 0 l2) = false) {v9 : Option Value} {hp9 : xe_H} (r9 : ∃ n, xr_X13_next n (221, [(0, .ref 18), (1, .int l1), (2, .int l2), (3, .int l3)], [.int (1 : Int32)], (I2, L2)) v9 hp9) : ∃ n, xr_X13_next n (201, [(0, .ref 18), (1, .int l1), (2, .int l2), (3, .int l3)], [], (I, L)) v9 hp9 := by
  refine xe_bF 1 (A := (220, [(0, .ref 18), (1, .int l1), (2, .int l2), (3, .int l3)], [], (I, L))) (B := (205, [(0, .ref 18), (1, .int l1), (2, .int l2), (3, .int l3)], [], (I, L))) h1 rfl ?_
  refine xe_go 0 (s' := (206, [(0, .ref 18), (1, .int l1), (2, .int l2), (3, .int l3)], [.ref 18], (I, L))) rfl ?_
  refine xe_vir (n := 1) (f := fx_X13_peek) rfl (Nat.le_of_ble_eq_true rfl) (List.mem_of_getElem? (i := 0) rfl) (Nat.le_of_ble_eq_true rfl) c1 ?_
  refine xe_sta (n := 1) (f := fx_X13_isSmall) rfl (Nat.le_of_ble_eq_true rfl) (List.mem_of_getElem? (i := 0) rfl) (Nat.le_of_ble_eq_true rfl) c2 ?_
  refine xe_bF 1 (A := (220, [(0, .ref 18), (1, .int l1), (2, .int l2), (3, .int l3)], [], (I2, L2))) (B := (216, [(0, .ref 18), (1, .int l1), (2, .int l2), (3, .int l3)], [], (I2, L2))) h2 rfl ?_
  refine xe_go 1 (s' := (221, [(0, .ref 18), (1, .int l1), (2, .int l2), (3, .int l3)], [.int (1 : Int32)], (I2, L2))) rfl ?_
  exact xe_nrm [0, 1, 2, 3] rfl r9
set_option maxRecDepth 100000 in
theorem pt_X13_next_26 {l1 l2 l3 : Int32} {I : Nat → Nat → Int32} {L : Nat → Nat → Int64} (h1 : (xe_cmp .le (I 18 13) (7 : Int32)) = true) {v9 : Option Value} {hp9 : xe_H} (r9 : ∃ n, xr_X13_next n (314, [(0, .ref 18), (1, .int l1), (2, .int l2), (3, .int l3)], [], (I, L)) v9 hp9) : ∃ n, xr_X13_next n (298, [(0, .ref 18), (1, .int l1), (2, .int l2), (3, .int l3)], [], (I, L)) v9 hp9 := by
  refine xe_bT 3 (A := (314, [(0, .ref 18), (1, .int l1), (2, .int l2), (3, .int l3)], [], (I, L))) (B := (307, [(0, .ref 18), (1, .int l1), (2, .int l2), (3, .int l3)], [], (I, L))) h1 rfl ?_
  exact xe_nrm [0, 1, 2, 3] rfl r9
set_option maxRecDepth 100000 in
theorem pt_X13_next_27 {l1 l2 l3 : Int32} {I : Nat → Nat → Int32} {L : Nat → Nat → Int64} (h1 : (xe_cmp .le (I 18 13) (7 : Int32)) = false) {v9 : Option Value} {hp9 : xe_H} (r9 : ∃ n, xr_X13_next n (314, [(0, .ref 18), (1, .int l1), (2, .int l2), (3, .int l3)], [], (I, (xul L 18 17 ((-1) : Int64)))) v9 hp9) : ∃ n, xr_X13_next n (298, [(0, .ref 18), (1, .int l1), (2, .int l2), (3, .int l3)], [], (I, L)) v9 hp9 := by
  refine xe_bF 3 (A := (314, [(0, .ref 18), (1, .int l1), (2, .int l2), (3, .int l3)], [], (I, L))) (B := (307, [(0, .ref 18), (1, .int l1), (2, .int l2), (3, .int l3)], [], (I, L))) h1 rfl ?_
  refine xe_go 2 (s' := (314, [(0, .ref 18), (1, .int l1), (2, .int l2), (3, .int l3)], [], (I, (xul L 18 17 ((-1) : Int64))))) rfl ?_
  exact xe_nrm [0, 1, 2, 3] rfl r9
set_option maxRecDepth 100000 in
theorem pt_X13_next_28 {l1 l2 l3 s0 : Int32} {I : Nat → Nat → Int32} {L : Nat → Nat → Int64} (h1 : (xe_cmp .ge (I 18 13) (7 : Int32)) = true) {v9 : Option Value} {hp9 : xe_H} (r9 : ∃ n, xr_X13_next n (248, [(0, .ref 18), (1, .int l1), (2, .int l2), (3, .int s0)], [], (I, L)) v9 hp9) : ∃ n, xr_X13_next n (221, [(0, .ref 18), (1, .int l1), (2, .int l2), (3, .int l3)], [.int s0], (I, L)) v9 hp9 := by
  refine xe_bT 4 (A := (248, [(0, .ref 18), (1, .int l1), (2, .int l2), (3, .int s0)], [], (I, L))) (B := (231, [(0, .ref 18), (1, .int l1), (2, .int l2), (3, .int s0)], [], (I, L))) h1 rfl ?_
  exact xe_nrm [0, 1, 2, 3] rfl r9
set_option maxRecDepth 100000 in
theorem pt_X13_next_29 {l1 l2 l3 s0 r1 : Int32} {I I1 : Nat → Nat → Int32} {L L1 : Nat → Nat → Int64} (h1 : (xe_cmp .ge (I 18 13) (7 : Int32)) = false) (c1 : fx_X13_peek [.ref 18] (I, L) (some (.int r1)) (I1, L1)) {v9 : Option Value} {hp9 : xe_H} (r9 : ∃ n, xr_X13_next n (248, [(0, .ref 18), (1, .int l1), (2, .int l2), (3, .int s0)], [], (I1, (xul L1 18 17 (((L 18 17) <<< (((8 : Int32)).toInt64 &&& 63)) ||| (r1).toInt64)))) v9 hp9) : ∃ n, xr_X13_next n (221, [(0, .ref 18), (1, .int l1), (2, .int l2), (3, .int l3)], [.int s0], (I, L)) v9 hp9 := by
  refine xe_bF 4 (A := (248, [(0, .ref 18), (1, .int l1), (2, .int l2), (3, .int s0)], [], (I, L))) (B := (231, [(0, .ref 18), (1, .int l1), (2, .int l2), (3, .int s0)], [], (I, L))) h1 rfl ?_
  refine xe_go 5 (s' := (240, [(0, .ref 18), (1, .int l1), (2, .int l2), (3, .int s0)], [.ref 18, .long ((L 18 17) <<< (((8 : Int32)).toInt64 &&& 63)), .ref 18], (I, L))) rfl ?_
  refine xe_vir (n := 1) (f := fx_X13_peek) rfl (Nat.le_of_ble_eq_true rfl) (List.mem_of_getElem? (i := 0) rfl) (Nat.le_of_ble_eq_true rfl) c1 ?_
  refine xe_go 2 (s' := (248, [(0, .ref 18), (1, .int l1), (2, .int l2), (3, .int s0)], [], (I1, (xul L1 18 17 (((L 18 17) <<< (((8 : Int32)).toInt64 &&& 63)) ||| (r1).toInt64))))) rfl ?_
  exact xe_nrm [0, 1, 2, 3] rfl r9
set_option maxRecDepth 100000 in
theorem pt_X13_next_30 {l1 l2 l3 : Int32} {I : Nat → Nat → Int32} {L : Nat → Nat → Int64} (h1 : (xe_cmp .eq l3 0) = true) {v9 : Option Value} {hp9 : xe_H} (r9 : ∃ n, xr_X13_next n (349, [(0, .ref 18), (1, .int l1), (2, .int l2), (3, .int l3)], [.int (4 : Int32), .ref 18], (I, L)) v9 hp9) : ∃ n, xr_X13_next n (314, [(0, .ref 18), (1, .int l1), (2, .int l2), (3, .int l3)], [], (I, L)) v9 hp9 := by
  refine xe_bT 2 (A := (336, [(0, .ref 18), (1, .int l1), (2, .int l2), (3, .int l3)], [.ref 18], (I, L))) (B := (319, [(0, .ref 18), (1, .int l1), (2, .int l2), (3, .int l3)], [.ref 18], (I, L))) h1 rfl ?_
  refine xe_go 1 (s' := (349, [(0, .ref 18), (1, .int l1), (2, .int l2), (3, .int l3)], [.int (4 : Int32), .ref 18], (I, L))) rfl ?_
  exact xe_nrm [0, 1, 2, 3] rfl r9
set_option maxRecDepth 100000 in
theorem pt_X13_next_31 {l1 l2 l3 : Int32} {I : Nat → Nat → Int32} {L : Nat → Nat → Int64} (h1 : (xe_cmp .eq l3 0) = false) (h2 : (xe_cmp .eq l2 0) = true) (h3 : (xe_cmp .le (I 18 13) (3 : Int32)) = true) (h4 : (xe_cmp .eq l2 0) = true) {v9 : Option Value} {hp9 : xe_H} (r9 : ∃ n, xr_X13_next n (349, [(0, .ref 18), (1, .int l1), (2, .int l2), (3, .int l3)], [.int (2 : Int32), .ref 18], (I, L)) v9 hp9) : ∃ n, xr_X13_next n (314, [(0, .ref 18), (1, .int l1), (2, .int l2), (3, .int l3)], [], (I, L)) v9 hp9 := by
  refine xe_bF 2 (A := (336, [(0, .ref 18), (1, .int l1), (2, .int l2), (3, .int l3)], [.ref 18], (I, L))) (B := (319, [(0, .ref 18), (1, .int l1), (2, .int l2), (3, .int l3)], [.ref 18], (I, L))) h1 rfl ?_
  refine xe_bT 3 (A := (332, [(0, .ref 18), (1, .int l1), (2, .int l2), (3, .int l3)], [.int (I 18 13), .ref 18], (I, L))) (B := (327, [(0, .ref 18), (1, .int l1), (2, .int l2), (3, .int l3)], [.int (I 18 13), .ref 18], (I, L))) h2 rfl ?_
  refine xe_bT 1 (A := (340, [(0, .ref 18), (1, .int l1), (2, .int l2), (3, .int l3)], [.ref 18], (I, L))) (B := (336, [(0, .ref 18), (1, .int l1), (2, .int l2), (3, .int l3)], [.ref 18], (I, L))) h3 rfl ?_
  refine xe_bT 1 (A := (348, [(0, .ref 18), (1, .int l1), (2, .int l2), (3, .int l3)], [.ref 18], (I, L))) (B := (344, [(0, .ref 18), (1, .int l1), (2, .int l2), (3, .int l3)], [.ref 18], (I, L))) h4 rfl ?_
  refine xe_go 0 (s' := (349, [(0, .ref 18), (1, .int l1), (2, .int l2), (3, .int l3)], [.int (2 : Int32), .ref 18], (I, L))) rfl ?_
  exact xe_nrm [0, 1, 2, 3] rfl r9
set_option maxRecDepth 100000 in
theorem pt_X13_next_32 {l1 l2 l3 : Int32} {I : Nat → Nat → Int32} {L : Nat → Nat → Int64} (h1 : (xe_cmp .eq l3 0) = false) (h2 : (xe_cmp .eq l2 0) = true) (h3 : (xe_cmp .le (I 18 13) (3 : Int32)) = true) (h4 : (xe_cmp .eq l2 0) = false) {v9 : Option Value} {hp9 : xe_H} (r9 : ∃ n, xr_X13_next n (349, [(0, .ref 18), (1, .int l1), (2, .int l2), (3, .int l3)], [.int (1 : Int32), .ref 18], (I, L)) v9 hp9) : ∃ n, xr_X13_next n (314, [(0, .ref 18), (1, .int l1), (2, .int l2), (3, .int l3)], [], (I, L)) v9 hp9 := by
  refine xe_bF 2 (A := (336, [(0, .ref 18), (1, .int l1), (2, .int l2), (3, .int l3)], [.ref 18], (I, L))) (B := (319, [(0, .ref 18), (1, .int l1), (2, .int l2), (3, .int l3)], [.ref 18], (I, L))) h1 rfl ?_
  refine xe_bT 3 (A := (332, [(0, .ref 18), (1, .int l1), (2, .int l2), (3, .int l3)], [.int (I 18 13), .ref 18], (I, L))) (B := (327, [(0, .ref 18), (1, .int l1), (2, .int l2), (3, .int l3)], [.int (I 18 13), .ref 18], (I, L))) h2 rfl ?_
  refine xe_bT 1 (A := (340, [(0, .ref 18), (1, .int l1), (2, .int l2), (3, .int l3)], [.ref 18], (I, L))) (B := (336, [(0, .ref 18), (1, .int l1), (2, .int l2), (3, .int l3)], [.ref 18], (I, L))) h3 rfl ?_
  refine xe_bF 1 (A := (348, [(0, .ref 18), (1, .int l1), (2, .int l2), (3, .int l3)], [.ref 18], (I, L))) (B := (344, [(0, .ref 18), (1, .int l1), (2, .int l2), (3, .int l3)], [.ref 18], (I, L))) h4 rfl ?_
  refine xe_go 1 (s' := (349, [(0, .ref 18), (1, .int l1), (2, .int l2), (3, .int l3)], [.int (1 : Int32), .ref 18], (I, L))) rfl ?_
  exact xe_nrm [0, 1, 2, 3] rfl r9
set_option maxRecDepth 100000 in
theorem pt_X13_next_33 {l1 l2 l3 : Int32} {I : Nat → Nat → Int32} {L : Nat → Nat → Int64} (h1 : (xe_cmp .eq l3 0) = false) (h2 : (xe_cmp .eq l2 0) = true) (h3 : (xe_cmp .le (I 18 13) (3 : Int32)) = false) {v9 : Option Value} {hp9 : xe_H} (r9 : ∃ n, xr_X13_next n (349, [(0, .ref 18), (1, .int l1), (2, .int l2), (3, .int l3)], [.int (4 : Int32), .ref 18], (I, L)) v9 hp9) : ∃ n, xr_X13_next n (314, [(0, .ref 18), (1, .int l1), (2, .int l2), (3, .int l3)], [], (I, L)) v9 hp9 := by
  refine xe_bF 2 (A := (336, [(0, .ref 18), (1, .int l1), (2, .int l2), (3, .int l3)], [.ref 18], (I, L))) (B := (319, [(0, .ref 18), (1, .int l1), (2, .int l2), (3, .int l3)], [.ref 18], (I, L))) h1 rfl ?_
  refine xe_bT 3 (A := (332, [(0, .ref 18), (1, .int l1), (2, .int l2), (3, .int l3)], [.int (I 18 13), .ref 18], (I, L))) (B := (327, [(0, .ref 18), (1, .int l1), (2, .int l2), (3, .int l3)], [.int (I 18 13), .ref 18], (I, L))) h2 rfl ?_
  refine xe_bF 1 (A := (340, [(0, .ref 18), (1, .int l1), (2, .int l2), (3, .int l3)], [.ref 18], (I, L))) (B := (336, [(0, .ref 18), (1, .int l1), (2, .int l2), (3, .int l3)], [.ref 18], (I, L))) h3 rfl ?_
  refine xe_go 1 (s' := (349, [(0, .ref 18), (1, .int l1), (2, .int l2), (3, .int l3)], [.int (4 : Int32), .ref 18], (I, L))) rfl ?_
  exact xe_nrm [0, 1, 2, 3] rfl r9
set_option maxRecDepth 100000 in
theorem pt_X13_next_34 {l1 l2 l3 : Int32} {I : Nat → Nat → Int32} {L : Nat → Nat → Int64} (h1 : (xe_cmp .eq l3 0) = false) (h2 : (xe_cmp .eq l2 0) = false) (h3 : (xe_cmp .le (I 18 13) (12 : Int32)) = true) (h4 : (xe_cmp .eq l2 0) = true) {v9 : Option Value} {hp9 : xe_H} (r9 : ∃ n, xr_X13_next n (349, [(0, .ref 18), (1, .int l1), (2, .int l2), (3, .int l3)], [.int (2 : Int32), .ref 18], (I, L)) v9 hp9) : ∃ n, xr_X13_next n (314, [(0, .ref 18), (1, .int l1), (2, .int l2), (3, .int l3)], [], (I, L)) v9 hp9 := by
  refine xe_bF 2 (A := (336, [(0, .ref 18), (1, .int l1), (2, .int l2), (3, .int l3)], [.ref 18], (I, L))) (B := (319, [(0, .ref 18), (1, .int l1), (2, .int l2), (3, .int l3)], [.ref 18], (I, L))) h1 rfl ?_
  refine xe_bF 3 (A := (332, [(0, .ref 18), (1, .int l1), (2, .int l2), (3, .int l3)], [.int (I 18 13), .ref 18], (I, L))) (B := (327, [(0, .ref 18), (1, .int l1), (2, .int l2), (3, .int l3)], [.int (I 18 13), .ref 18], (I, L))) h2 rfl ?_
  refine xe_bT 2 (A := (340, [(0, .ref 18), (1, .int l1), (2, .int l2), (3, .int l3)], [.ref 18], (I, L))) (B := (336, [(0, .ref 18), (1, .int l1), (2, .int l2), (3, .int l3)], [.ref 18], (I, L))) h3 rfl ?_
  refine xe_bT 1 (A := (348, [(0, .ref 18), (1, .int l1), (2, .int l2), (3, .int l3)], [.ref 18], (I, L))) (B := (344, [(0, .ref 18), (1, .int l1), (2, .int l2), (3, .int l3)], [.ref 18], (I, L))) h4 rfl ?_
  refine xe_go 0 (s' := (349, [(0, .ref 18), (1, .int l1), (2, .int l2), (3, .int l3)], [.int (2 : Int32), .ref 18], (I, L))) rfl ?_
  exact xe_nrm [0, 1, 2, 3] rfl r9
set_option maxRecDepth 100000 in
theorem pt_X13_next_35 {l1 l2 l3 : Int32} {I : Nat → Nat → Int32} {L : Nat → Nat → Int64} (h1 : (xe_cmp .eq l3 0) = false) (h2 : (xe_cmp .eq l2 0) = false) (h3 : (xe_cmp .le (I 18 13) (12 : Int32)) = true) (h4 : (xe_cmp .eq l2 0) = false) {v9 : Option Value} {hp9 : xe_H} (r9 : ∃ n, xr_X13_next n (349, [(0, .ref 18), (1, .int l1), (2, .int l2), (3, .int l3)], [.int (1 : Int32), .ref 18], (I, L)) v9 hp9) : ∃ n, xr_X13_next n (314, [(0, .ref 18), (1, .int l1), (2, .int l2), (3, .int l3)], [], (I, L)) v9 hp9 := by
  refine xe_bF 2 (A := (336, [(0, .ref 18), (1, .int l1), (2, .int l2), (3, .int l3)], [.ref 18], (I, L))) (B := (319, [(0, .ref 18), (1, .int l1), (2, .int l2), (3, .int l3)], [.ref 18], (I, L))) h1 rfl ?_
  refine xe_bF 3 (A := (332, [(0, .ref 18), (1, .int l1), (2, .int l2), (3, .int l3)], [.int (I 18 13), .ref 18], (I, L))) (B := (327, [(0, .ref 18), (1, .int l1), (2, .int l2), (3, .int l3)], [.int (I 18 13), .ref 18], (I, L))) h2 rfl ?_
  refine xe_bT 2 (A := (340, [(0, .ref 18), (1, .int l1), (2, .int l2), (3, .int l3)], [.ref 18], (I, L))) (B := (336, [(0, .ref 18), (1, .int l1), (2, .int l2), (3, .int l3)], [.ref 18], (I, L))) h3 rfl ?_
  refine xe_bF 1 (A := (348, [(0, .ref 18), (1, .int l1), (2, .int l2), (3, .int l3)], [.ref 18], (I, L))) (B := (344, [(0, .ref 18), (1, .int l1), (2, .int l2), (3, .int l3)], [.ref 18], (I, L))) h4 rfl ?_
  refine xe_go 1 (s' := (349, [(0, .ref 18), (1, .int l1), (2, .int l2), (3, .int l3)], [.int (1 : Int32), .ref 18], (I, L))) rfl ?_
  exact xe_nrm [0, 1, 2, 3] rfl r9
set_option maxRecDepth 100000 in
theorem pt_X13_next_36 {l1 l2 l3 : Int32} {I : Nat → Nat → Int32} {L : Nat → Nat → Int64} (h1 : (xe_cmp .eq l3 0) = false) (h2 : (xe_cmp .eq l2 0) = false) (h3 : (xe_cmp .le (I 18 13) (12 : Int32)) = false) {v9 : Option Value} {hp9 : xe_H} (r9 : ∃ n, xr_X13_next n (349, [(0, .ref 18), (1, .int l1), (2, .int l2), (3, .int l3)], [.int (4 : Int32), .ref 18], (I, L)) v9 hp9) : ∃ n, xr_X13_next n (314, [(0, .ref 18), (1, .int l1), (2, .int l2), (3, .int l3)], [], (I, L)) v9 hp9 := by
  refine xe_bF 2 (A := (336, [(0, .ref 18), (1, .int l1), (2, .int l2), (3, .int l3)], [.ref 18], (I, L))) (B := (319, [(0, .ref 18), (1, .int l1), (2, .int l2), (3, .int l3)], [.ref 18], (I, L))) h1 rfl ?_
  refine xe_bF 3 (A := (332, [(0, .ref 18), (1, .int l1), (2, .int l2), (3, .int l3)], [.int (I 18 13), .ref 18], (I, L))) (B := (327, [(0, .ref 18), (1, .int l1), (2, .int l2), (3, .int l3)], [.int (I 18 13), .ref 18], (I, L))) h2 rfl ?_
  refine xe_bF 2 (A := (340, [(0, .ref 18), (1, .int l1), (2, .int l2), (3, .int l3)], [.ref 18], (I, L))) (B := (336, [(0, .ref 18), (1, .int l1), (2, .int l2), (3, .int l3)], [.ref 18], (I, L))) h3 rfl ?_
  refine xe_go 1 (s' := (349, [(0, .ref 18), (1, .int l1), (2, .int l2), (3, .int l3)], [.int (4 : Int32), .ref 18], (I, L))) rfl ?_
  exact xe_nrm [0, 1, 2, 3] rfl r9
set_option maxRecDepth 100000 in
theorem pt_X13_next_37 {l1 l2 l3 : Int32} {I : Nat → Nat → Int32} {L : Nat → Nat → Int64} (h1 : (xe_cmp .ge (I 18 13) (3 : Int32)) = true) {v9 : Option Value} {hp9 : xe_H} (r9 : ∃ n, xr_X13_next n (275, [(0, .ref 18), (1, .int l1), (2, .int l2), (3, .int l3)], [], (I, L)) v9 hp9) : ∃ n, xr_X13_next n (248, [(0, .ref 18), (1, .int l1), (2, .int l2), (3, .int l3)], [], (I, L)) v9 hp9 := by
  refine xe_bT 3 (A := (275, [(0, .ref 18), (1, .int l1), (2, .int l2), (3, .int l3)], [], (I, L))) (B := (256, [(0, .ref 18), (1, .int l1), (2, .int l2), (3, .int l3)], [], (I, L))) h1 rfl ?_
  exact xe_nrm [0, 1, 2, 3] rfl r9
set_option maxRecDepth 100000 in
theorem pt_X13_next_38 {l1 l2 l3 r1 : Int32} {I I1 : Nat → Nat → Int32} {L L1 : Nat → Nat → Int64} (h1 : (xe_cmp .ge (I 18 13) (3 : Int32)) = false) (c1 : fx_X13_peek [.ref 18] (I, L) (some (.int r1)) (I1, L1)) {v9 : Option Value} {hp9 : xe_H} (r9 : ∃ n, xr_X13_next n (275, [(0, .ref 18), (1, .int l1), (2, .int l2), (3, .int l3)], [], ((xu I1 18 14 ((((10 : Int32) * (I 18 14)) + r1) - (48 : Int32))), L1)) v9 hp9) : ∃ n, xr_X13_next n (248, [(0, .ref 18), (1, .int l1), (2, .int l2), (3, .int l3)], [], (I, L)) v9 hp9 := by
  refine xe_bF 3 (A := (275, [(0, .ref 18), (1, .int l1), (2, .int l2), (3, .int l3)], [], (I, L))) (B := (256, [(0, .ref 18), (1, .int l1), (2, .int l2), (3, .int l3)], [], (I, L))) h1 rfl ?_
  refine xe_go 5 (s' := (265, [(0, .ref 18), (1, .int l1), (2, .int l2), (3, .int l3)], [.ref 18, .int ((10 : Int32) * (I 18 14)), .ref 18], (I, L))) rfl ?_
  refine xe_vir (n := 1) (f := fx_X13_peek) rfl (Nat.le_of_ble_eq_true rfl) (List.mem_of_getElem? (i := 0) rfl) (Nat.le_of_ble_eq_true rfl) c1 ?_
  refine xe_go 3 (s' := (275, [(0, .ref 18), (1, .int l1), (2, .int l2), (3, .int l3)], [], ((xu I1 18 14 ((((10 : Int32) * (I 18 14)) + r1) - (48 : Int32))), L1))) rfl ?_
  exact xe_nrm [0, 1, 2, 3] rfl r9
set_option maxRecDepth 100000 in
theorem pt_X13_next_39 {l1 l2 l3 s0 : Int32} {I : Nat → Nat → Int32} {L : Nat → Nat → Int64}  : ∃ n, xr_X13_next n (349, [(0, .ref 18), (1, .int l1), (2, .int l2), (3, .int l3)], [.int s0, .ref 18], (I, L)) none ((xu I 18 11 s0), L) := by
  refine xe_go 0 (s' := (352, [(0, .ref 18), (1, .int l1), (2, .int l2), (3, .int l3)], [], ((xu I 18 11 s0), L))) rfl ?_
  exact xe_end rfl rfl rfl
set_option maxRecDepth 100000 in
theorem pt_X13_next_40 {l1 l2 l3 : Int32} {I : Nat → Nat → Int32} {L : Nat → Nat → Int64} {v9 : Option Value} {hp9 : xe_H} (r9 : ∃ n, xr_X13_next n (181, [(0, .ref 18), (1, .int l1), (2, .int l2), (3, .int l3)], [], ((xu (xu I 18 13 ((I 18 13) + (1 : Int32))) 18 4 ((I 18 4) + (1 : Int32))), L)) v9 hp9) : ∃ n, xr_X13_next n (275, [(0, .ref 18), (1, .int l1), (2, .int l2), (3, .int l3)], [], (I, L)) v9 hp9 := by
  refine xe_go 12 (s' := (181, [(0, .ref 18), (1, .int l1), (2, .int l2), (3, .int l3)], [], ((xu (xu I 18 13 ((I 18 13) + (1 : Int32))) 18 4 ((I 18 4) + (1 : Int32))), L))) rfl ?_
  exact xe_nrm [0, 1, 2, 3] rfl r9
def xi_X13_bad : List (Nat × Nat × Instr) := [(0, 1, .aload_n 0), (1, 1, .iload_n 1), (2, 3, .putfield 159), (5, 1, .aload_n 0), (6, 1, .aload_n 0), (7, 3, .getfield 134), (10, 3, .putfield 162), (13, 1, .iconst 0), (14, 1, .ireturn)]
def xg_X13_bad : zf_ft := [(134, 11, 12, .inl (0, 0))]
def xp_X13_bad : zf_ft := [(159, 11, 15, .inl ((-2147483648), 2147483647)), (162, 11, 16, .inl ((-2147483648), 2147483647))]
def xv_X13_bad : List (Nat × Nat × xe_F) := []
def xt_X13_bad : List (Nat × Nat × xe_F) := []
abbrev xr_X13_bad := xe_run xGT xSC xRF 2 xg_X13_bad xp_X13_bad [] [] xv_X13_bad xt_X13_bad xi_X13_bad
def fx_X13_bad : xe_F := fun us hp v hp' => (us.map fun v => v.category).sum ≤ 2 ∧ xe_rt (some .boolean) v ∧ (∃ ar, us = ar ++ [.ref 18]) ∧ ∃ n, xr_X13_bad n (0, xe_ag 0 us.reverse, [], hp) v hp'
theorem mk_X13_bad {a1 : Int32} {hp hp' : xe_H} {v : Option Value} (hr : xe_rt (some .boolean) v) (h : ∃ n, xr_X13_bad n (0, [(0, .ref 18), (1, .int a1)], [], hp) v hp') : fx_X13_bad [.int a1, .ref 18] hp v hp' := ⟨Nat.le_of_ble_eq_true rfl, hr, ⟨[.int a1], rfl⟩, h⟩
theorem hx_X13_bad : ∀ us hp v hp', fx_X13_bad us hp v hp' → (us.map fun v => v.category).sum ≤ 2 ∧ xe_rt (some .boolean) v ∧ ∃ n, xr_X13_bad n (0, xe_ag 0 us.reverse, [], hp) v hp' := fun us hp v hp' h => ⟨h.1, h.2.1, h.2.2.2⟩
theorem fr_X13_bad : ∀ us hp v hp', fx_X13_bad us hp v hp' → ∃ ar, us = ar ++ [.ref 18] := fun us hp v hp' h => h.2.2.1
set_option maxRecDepth 100000 in
set_option maxHeartbeats 4000000 in
theorem kx_X13_bad (l : Launch) (D : va_G) (k : Nat → ClassId) (B0 : Nat) (ad : Nat → Nat) (al sw : Nat) : xe_Con l yX13_bad (zw yX13_bad cX13_bad 2 (some .boolean)) ({ frames := 0, cells := 0, slots := 0, locals := 0 }) D k ad (zEx B0 ad al sw) xGT xSC xRF fx_X13_bad := by
  have hEx := zEx_ok B0 ad al sw
  refine xe_mk (cc := cX13_bad) (nL := 2) (ret := (some .boolean)) (fg := xg_X13_bad) (fp := xp_X13_bad) (sg := []) (lc := []) (cv := xv_X13_bad) (cs := xt_X13_bad) (ins := xi_X13_bad) (by decide) rfl hEx (by decide +kernel) hx_X13_bad ?_
  intro p e s m args below meth c Q Sg w0 A θ S hK hE hAB hA hth
  refine ⟨?_, ?_, ?_, ?_, ?_, ?_⟩
  · exact zf_ac ((fun H locs ws a q0 fs v rest pc ls hP he hv hdg kk => va_get (D := D) (ci := 11) (C := RX13) (T := TX13) (N := 47) (own := RX13) S.1 S.2.1 S.2.2.2.2 (zg_in inW_X13) S.2.2.2.1 hK hP q0 he rfl 12 (by decide) (S.2.2.2.2 (.fieldLink RX13 134 "RungMoneyModel" "at" "I") (List.mem_cons_of_mem _ zw_1360)) (fun _ h9 => h9) hv hdg kk)) zf_an
  · exact zf_ac ((fun H locs ws a q0 fs v rest pc ls hP hD hS he hl hv hdg kk => by obtain ⟨x, rfl, h1, h2⟩ := hv; exact va_put (D := D) (ci := 11) (v := .int x) (ty := .int) (C := RX13) (T := TX13) (N := 47) (own := RX13) S.1 S.2.1 S.2.2.2.2 (zg_in inW_X13) tyX13 tyX13_ok nmX13 S.2.2.2.1 hK hP hD hS q0 he rfl 15 (by decide) (S.2.2.2.2 (.fieldLink RX13 159 "RungMoneyModel" "fault" "I") (List.mem_cons_of_mem _ zw_1363)) (fun _ h9 => h9) rfl (by decide +kernel) rfl rfl hl hdg kk)) (zf_ac ((fun H locs ws a q0 fs v rest pc ls hP hD hS he hl hv hdg kk => by obtain ⟨x, rfl, h1, h2⟩ := hv; exact va_put (D := D) (ci := 11) (v := .int x) (ty := .int) (C := RX13) (T := TX13) (N := 47) (own := RX13) S.1 S.2.1 S.2.2.2.2 (zg_in inW_X13) tyX13 tyX13_ok nmX13 S.2.2.2.1 hK hP hD hS q0 he rfl 16 (by decide) (S.2.2.2.2 (.fieldLink RX13 162 "RungMoneyModel" "faultAt" "I") (List.mem_cons_of_mem _ zw_1364)) (fun _ h9 => h9) rfl (by decide +kernel) rfl rfl hl hdg kk)) zf_an)
  · exact xe_n2
  · exact xe_n3
  · exact xe_n4
  · exact xe_n4
set_option maxRecDepth 100000 in
theorem pt_X13_bad_0 {a1 : Int32} {I : Nat → Nat → Int32} {L : Nat → Nat → Int64}  : ∃ n, xr_X13_bad n (0, [(0, .ref 18), (1, .int a1)], [], (I, L)) (some (.int (0 : Int32))) ((xu (xu I 18 15 a1) 18 16 (I 18 12)), L) := by
  refine xe_go 7 (s' := (14, [(0, .ref 18), (1, .int a1)], [.int (0 : Int32)], ((xu (xu I 18 15 a1) 18 16 (I 18 12)), L))) rfl ?_
  exact xe_end rfl rfl rfl
def xi_X13_isWord : List (Nat × Nat × Instr) := [(0, 1, .aload_n 0), (1, 3, .getfield 140), (4, 1, .iconst 1), (5, 3, .if_icmp .ne 16), (8, 1, .aload_n 0), (9, 3, .getfield 153), (12, 1, .lload_n 1), (13, 1, .lcmp), (14, 3, .ifCond .ne 7), (17, 1, .iconst 1), (18, 3, .goto 4), (21, 1, .iconst 0), (22, 1, .ireturn)]
def xg_X13_isWord : zf_ft := [(140, 11, 11, .inl (0, 0)), (153, 11, 17, .inl (0, 0))]
def xp_X13_isWord : zf_ft := []
def xv_X13_isWord : List (Nat × Nat × xe_F) := []
def xt_X13_isWord : List (Nat × Nat × xe_F) := []
abbrev xr_X13_isWord := xe_run xGT xSC xRF 3 xg_X13_isWord xp_X13_isWord [] [] xv_X13_isWord xt_X13_isWord xi_X13_isWord
def fx_X13_isWord : xe_F := fun us hp v hp' => (us.map fun v => v.category).sum ≤ 3 ∧ xe_rt (some .boolean) v ∧ (∃ ar, us = ar ++ [.ref 18]) ∧ ∃ n, xr_X13_isWord n (0, xe_ag 0 us.reverse, [], hp) v hp'
theorem mk_X13_isWord {w1 : Int64} {hp hp' : xe_H} {v : Option Value} (hr : xe_rt (some .boolean) v) (h : ∃ n, xr_X13_isWord n (0, [(0, .ref 18), (1, .long w1)], [], hp) v hp') : fx_X13_isWord [.long w1, .ref 18] hp v hp' := ⟨Nat.le_of_ble_eq_true rfl, hr, ⟨[.long w1], rfl⟩, h⟩
theorem hx_X13_isWord : ∀ us hp v hp', fx_X13_isWord us hp v hp' → (us.map fun v => v.category).sum ≤ 3 ∧ xe_rt (some .boolean) v ∧ ∃ n, xr_X13_isWord n (0, xe_ag 0 us.reverse, [], hp) v hp' := fun us hp v hp' h => ⟨h.1, h.2.1, h.2.2.2⟩
theorem fr_X13_isWord : ∀ us hp v hp', fx_X13_isWord us hp v hp' → ∃ ar, us = ar ++ [.ref 18] := fun us hp v hp' h => h.2.2.1
set_option maxRecDepth 100000 in
set_option maxHeartbeats 4000000 in
theorem kx_X13_isWord (l : Launch) (D : va_G) (k : Nat → ClassId) (B0 : Nat) (ad : Nat → Nat) (al sw : Nat) : xe_Con l yX13_isWord (zw yX13_isWord cX13_isWord 3 (some .boolean)) ({ frames := 0, cells := 0, slots := 0, locals := 0 }) D k ad (zEx B0 ad al sw) xGT xSC xRF fx_X13_isWord := by
  have hEx := zEx_ok B0 ad al sw
  refine xe_mk (cc := cX13_isWord) (nL := 3) (ret := (some .boolean)) (fg := xg_X13_isWord) (fp := xp_X13_isWord) (sg := []) (lc := []) (cv := xv_X13_isWord) (cs := xt_X13_isWord) (ins := xi_X13_isWord) (by decide) rfl hEx (by decide +kernel) hx_X13_isWord ?_
  intro p e s m args below meth c Q Sg w0 A θ S hK hE hAB hA hth
  refine ⟨?_, ?_, ?_, ?_, ?_, ?_⟩
  · exact zf_ac ((fun H locs ws a q0 fs v rest pc ls hP he hv hdg kk => va_get (D := D) (ci := 11) (C := RX13) (T := TX13) (N := 47) (own := RX13) S.1 S.2.1 S.2.2.2.2 (zg_in inW_X13) S.2.2.2.1 hK hP q0 he rfl 11 (by decide) (S.2.2.2.2 (.fieldLink RX13 140 "RungMoneyModel" "token" "I") (List.mem_cons_of_mem _ zw_1359)) (fun _ h9 => h9) hv hdg kk)) (zf_ac ((fun H locs ws a q0 fs v rest pc ls hP he hv hdg kk => va_get (D := D) (ci := 11) (C := RX13) (T := TX13) (N := 47) (own := RX13) S.1 S.2.1 S.2.2.2.2 (zg_in inW_X13) S.2.2.2.1 hK hP q0 he rfl 17 (by decide) (S.2.2.2.2 (.fieldLink RX13 153 "RungMoneyModel" "word" "J") (List.mem_cons_of_mem _ zw_1365)) (fun _ h9 => h9) hv hdg kk)) zf_an)
  · exact zf_an
  · exact xe_n2
  · exact xe_n3
  · exact xe_n4
  · exact xe_n4
set_option maxRecDepth 100000 in
theorem pt_X13_isWord_0 {w1 : Int64} {I : Nat → Nat → Int32} {L : Nat → Nat → Int64} (h1 : (xe_cmp .ne (I 18 11) (1 : Int32)) = true) : ∃ n, xr_X13_isWord n (0, [(0, .ref 18), (1, .long w1)], [], (I, L)) (some (.int (0 : Int32))) (I, L) := by
  refine xe_bT 3 (A := (21, [(0, .ref 18), (1, .long w1)], [], (I, L))) (B := (8, [(0, .ref 18), (1, .long w1)], [], (I, L))) h1 rfl ?_
  refine xe_go 0 (s' := (22, [(0, .ref 18), (1, .long w1)], [.int (0 : Int32)], (I, L))) rfl ?_
  exact xe_end rfl rfl rfl
set_option maxRecDepth 100000 in
theorem pt_X13_isWord_1 {w1 : Int64} {I : Nat → Nat → Int32} {L : Nat → Nat → Int64} (h1 : (xe_cmp .ne (I 18 11) (1 : Int32)) = false) (h2 : (xe_cmp .ne (lg_cmp (L 18 17) w1) 0) = true) : ∃ n, xr_X13_isWord n (0, [(0, .ref 18), (1, .long w1)], [], (I, L)) (some (.int (0 : Int32))) (I, L) := by
  refine xe_bF 3 (A := (21, [(0, .ref 18), (1, .long w1)], [], (I, L))) (B := (8, [(0, .ref 18), (1, .long w1)], [], (I, L))) h1 rfl ?_
  refine xe_bT 4 (A := (21, [(0, .ref 18), (1, .long w1)], [], (I, L))) (B := (17, [(0, .ref 18), (1, .long w1)], [], (I, L))) h2 rfl ?_
  refine xe_go 0 (s' := (22, [(0, .ref 18), (1, .long w1)], [.int (0 : Int32)], (I, L))) rfl ?_
  exact xe_end rfl rfl rfl
set_option maxRecDepth 100000 in
theorem pt_X13_isWord_2 {w1 : Int64} {I : Nat → Nat → Int32} {L : Nat → Nat → Int64} (h1 : (xe_cmp .ne (I 18 11) (1 : Int32)) = false) (h2 : (xe_cmp .ne (lg_cmp (L 18 17) w1) 0) = false) : ∃ n, xr_X13_isWord n (0, [(0, .ref 18), (1, .long w1)], [], (I, L)) (some (.int (1 : Int32))) (I, L) := by
  refine xe_bF 3 (A := (21, [(0, .ref 18), (1, .long w1)], [], (I, L))) (B := (8, [(0, .ref 18), (1, .long w1)], [], (I, L))) h1 rfl ?_
  refine xe_bF 4 (A := (21, [(0, .ref 18), (1, .long w1)], [], (I, L))) (B := (17, [(0, .ref 18), (1, .long w1)], [], (I, L))) h2 rfl ?_
  refine xe_go 1 (s' := (22, [(0, .ref 18), (1, .long w1)], [.int (1 : Int32)], (I, L))) rfl ?_
  exact xe_end rfl rfl rfl
def xi_X13_isSign : List (Nat × Nat × Instr) := [(0, 1, .aload_n 0), (1, 3, .getfield 140), (4, 1, .iconst 3), (5, 3, .if_icmp .ne 15), (8, 1, .aload_n 0), (9, 3, .getfield 150), (12, 1, .iload_n 1), (13, 3, .if_icmp .ne 7), (16, 1, .iconst 1), (17, 3, .goto 4), (20, 1, .iconst 0), (21, 1, .ireturn)]
def xg_X13_isSign : zf_ft := [(140, 11, 11, .inl (0, 0)), (150, 11, 14, .inl (0, 0))]
def xp_X13_isSign : zf_ft := []
def xv_X13_isSign : List (Nat × Nat × xe_F) := []
def xt_X13_isSign : List (Nat × Nat × xe_F) := []
abbrev xr_X13_isSign := xe_run xGT xSC xRF 2 xg_X13_isSign xp_X13_isSign [] [] xv_X13_isSign xt_X13_isSign xi_X13_isSign
def fx_X13_isSign : xe_F := fun us hp v hp' => (us.map fun v => v.category).sum ≤ 2 ∧ xe_rt (some .boolean) v ∧ (∃ ar, us = ar ++ [.ref 18]) ∧ ∃ n, xr_X13_isSign n (0, xe_ag 0 us.reverse, [], hp) v hp'
theorem mk_X13_isSign {a1 : Int32} {hp hp' : xe_H} {v : Option Value} (hr : xe_rt (some .boolean) v) (h : ∃ n, xr_X13_isSign n (0, [(0, .ref 18), (1, .int a1)], [], hp) v hp') : fx_X13_isSign [.int a1, .ref 18] hp v hp' := ⟨Nat.le_of_ble_eq_true rfl, hr, ⟨[.int a1], rfl⟩, h⟩
theorem hx_X13_isSign : ∀ us hp v hp', fx_X13_isSign us hp v hp' → (us.map fun v => v.category).sum ≤ 2 ∧ xe_rt (some .boolean) v ∧ ∃ n, xr_X13_isSign n (0, xe_ag 0 us.reverse, [], hp) v hp' := fun us hp v hp' h => ⟨h.1, h.2.1, h.2.2.2⟩
theorem fr_X13_isSign : ∀ us hp v hp', fx_X13_isSign us hp v hp' → ∃ ar, us = ar ++ [.ref 18] := fun us hp v hp' h => h.2.2.1
set_option maxRecDepth 100000 in
set_option maxHeartbeats 4000000 in
theorem kx_X13_isSign (l : Launch) (D : va_G) (k : Nat → ClassId) (B0 : Nat) (ad : Nat → Nat) (al sw : Nat) : xe_Con l yX13_isSign (zw yX13_isSign cX13_isSign 2 (some .boolean)) ({ frames := 0, cells := 0, slots := 0, locals := 0 }) D k ad (zEx B0 ad al sw) xGT xSC xRF fx_X13_isSign := by
  have hEx := zEx_ok B0 ad al sw
  refine xe_mk (cc := cX13_isSign) (nL := 2) (ret := (some .boolean)) (fg := xg_X13_isSign) (fp := xp_X13_isSign) (sg := []) (lc := []) (cv := xv_X13_isSign) (cs := xt_X13_isSign) (ins := xi_X13_isSign) (by decide) rfl hEx (by decide +kernel) hx_X13_isSign ?_
  intro p e s m args below meth c Q Sg w0 A θ S hK hE hAB hA hth
  refine ⟨?_, ?_, ?_, ?_, ?_, ?_⟩
  · exact zf_ac ((fun H locs ws a q0 fs v rest pc ls hP he hv hdg kk => va_get (D := D) (ci := 11) (C := RX13) (T := TX13) (N := 47) (own := RX13) S.1 S.2.1 S.2.2.2.2 (zg_in inW_X13) S.2.2.2.1 hK hP q0 he rfl 11 (by decide) (S.2.2.2.2 (.fieldLink RX13 140 "RungMoneyModel" "token" "I") (List.mem_cons_of_mem _ zw_1359)) (fun _ h9 => h9) hv hdg kk)) (zf_ac ((fun H locs ws a q0 fs v rest pc ls hP he hv hdg kk => va_get (D := D) (ci := 11) (C := RX13) (T := TX13) (N := 47) (own := RX13) S.1 S.2.1 S.2.2.2.2 (zg_in inW_X13) S.2.2.2.1 hK hP q0 he rfl 14 (by decide) (S.2.2.2.2 (.fieldLink RX13 150 "RungMoneyModel" "number" "I") (List.mem_cons_of_mem _ zw_1362)) (fun _ h9 => h9) hv hdg kk)) zf_an)
  · exact zf_an
  · exact xe_n2
  · exact xe_n3
  · exact xe_n4
  · exact xe_n4
set_option maxRecDepth 100000 in
theorem pt_X13_isSign_0 {a1 : Int32} {I : Nat → Nat → Int32} {L : Nat → Nat → Int64} (h1 : (xe_cmp .ne (I 18 11) (3 : Int32)) = true) : ∃ n, xr_X13_isSign n (0, [(0, .ref 18), (1, .int a1)], [], (I, L)) (some (.int (0 : Int32))) (I, L) := by
  refine xe_bT 3 (A := (20, [(0, .ref 18), (1, .int a1)], [], (I, L))) (B := (8, [(0, .ref 18), (1, .int a1)], [], (I, L))) h1 rfl ?_
  refine xe_go 0 (s' := (21, [(0, .ref 18), (1, .int a1)], [.int (0 : Int32)], (I, L))) rfl ?_
  exact xe_end rfl rfl rfl
set_option maxRecDepth 100000 in
theorem pt_X13_isSign_1 {a1 : Int32} {I : Nat → Nat → Int32} {L : Nat → Nat → Int64} (h1 : (xe_cmp .ne (I 18 11) (3 : Int32)) = false) (h2 : (xe_cmp .ne (I 18 14) a1) = true) : ∃ n, xr_X13_isSign n (0, [(0, .ref 18), (1, .int a1)], [], (I, L)) (some (.int (0 : Int32))) (I, L) := by
  refine xe_bF 3 (A := (20, [(0, .ref 18), (1, .int a1)], [], (I, L))) (B := (8, [(0, .ref 18), (1, .int a1)], [], (I, L))) h1 rfl ?_
  refine xe_bT 3 (A := (20, [(0, .ref 18), (1, .int a1)], [], (I, L))) (B := (16, [(0, .ref 18), (1, .int a1)], [], (I, L))) h2 rfl ?_
  refine xe_go 0 (s' := (21, [(0, .ref 18), (1, .int a1)], [.int (0 : Int32)], (I, L))) rfl ?_
  exact xe_end rfl rfl rfl
set_option maxRecDepth 100000 in
theorem pt_X13_isSign_2 {a1 : Int32} {I : Nat → Nat → Int32} {L : Nat → Nat → Int64} (h1 : (xe_cmp .ne (I 18 11) (3 : Int32)) = false) (h2 : (xe_cmp .ne (I 18 14) a1) = false) : ∃ n, xr_X13_isSign n (0, [(0, .ref 18), (1, .int a1)], [], (I, L)) (some (.int (1 : Int32))) (I, L) := by
  refine xe_bF 3 (A := (20, [(0, .ref 18), (1, .int a1)], [], (I, L))) (B := (8, [(0, .ref 18), (1, .int a1)], [], (I, L))) h1 rfl ?_
  refine xe_bF 3 (A := (20, [(0, .ref 18), (1, .int a1)], [], (I, L))) (B := (16, [(0, .ref 18), (1, .int a1)], [], (I, L))) h2 rfl ?_
  refine xe_go 1 (s' := (21, [(0, .ref 18), (1, .int a1)], [.int (1 : Int32)], (I, L))) rfl ?_
  exact xe_end rfl rfl rfl
def xi_X13_sign : List (Nat × Nat × Instr) := [(0, 1, .aload_n 0), (1, 1, .iload_n 1), (2, 3, .invokevirtual 165), (5, 3, .ifCond .ne 9), (8, 1, .aload_n 0), (9, 1, .iconst 1), (10, 3, .invokevirtual 168), (13, 1, .ireturn), (14, 1, .aload_n 0), (15, 3, .invokevirtual 171), (18, 1, .iconst 1), (19, 1, .ireturn)]
def xg_X13_sign : zf_ft := []
def xp_X13_sign : zf_ft := []
def xv_X13_sign : List (Nat × Nat × xe_F) := [(165, 2, fx_X13_isSign), (168, 2, fx_X13_bad), (171, 1, fx_X13_next)]
def xt_X13_sign : List (Nat × Nat × xe_F) := []
abbrev xr_X13_sign := xe_run xGT xSC xRF 2 xg_X13_sign xp_X13_sign [] [] xv_X13_sign xt_X13_sign xi_X13_sign
def fx_X13_sign : xe_F := fun us hp v hp' => (us.map fun v => v.category).sum ≤ 2 ∧ xe_rt (some .boolean) v ∧ (∃ ar, us = ar ++ [.ref 18]) ∧ ∃ n, xr_X13_sign n (0, xe_ag 0 us.reverse, [], hp) v hp'
theorem mk_X13_sign {a1 : Int32} {hp hp' : xe_H} {v : Option Value} (hr : xe_rt (some .boolean) v) (h : ∃ n, xr_X13_sign n (0, [(0, .ref 18), (1, .int a1)], [], hp) v hp') : fx_X13_sign [.int a1, .ref 18] hp v hp' := ⟨Nat.le_of_ble_eq_true rfl, hr, ⟨[.int a1], rfl⟩, h⟩
theorem hx_X13_sign : ∀ us hp v hp', fx_X13_sign us hp v hp' → (us.map fun v => v.category).sum ≤ 2 ∧ xe_rt (some .boolean) v ∧ ∃ n, xr_X13_sign n (0, xe_ag 0 us.reverse, [], hp) v hp' := fun us hp v hp' h => ⟨h.1, h.2.1, h.2.2.2⟩
theorem fr_X13_sign : ∀ us hp v hp', fx_X13_sign us hp v hp' → ∃ ar, us = ar ++ [.ref 18] := fun us hp v hp' h => h.2.2.1
set_option maxRecDepth 100000 in
set_option maxHeartbeats 4000000 in
theorem kx_X13_sign (l : Launch) (D : va_G) (k : Nat → ClassId) (B0 : Nat) (ad : Nat → Nat) (al sw : Nat) : xe_Con l yX13_sign (zw yX13_sign cX13_sign 2 (some .boolean)) ({ frames := 2, cells := 0, slots := 0, locals := 43 }) D k ad (zEx B0 ad al sw) xGT xSC xRF fx_X13_sign := by
  have hEx := zEx_ok B0 ad al sw
  refine xe_mk (cc := cX13_sign) (nL := 2) (ret := (some .boolean)) (fg := xg_X13_sign) (fp := xp_X13_sign) (sg := []) (lc := []) (cv := xv_X13_sign) (cs := xt_X13_sign) (ins := xi_X13_sign) (by decide) rfl hEx (by decide +kernel) hx_X13_sign ?_
  intro p e s m args below meth c Q Sg w0 A θ S hK hE hAB hA hth
  refine ⟨?_, ?_, ?_, ?_, ?_, ?_⟩
  · exact zf_an
  · exact zf_an
  · exact xe_n2
  · exact xe_n3
  · exact xe_a4 (xe_crV S hEx hE hAB hA hK hth (kx_X13_isSign l D k B0 ad al sw) (cwV 1 S.2.2.2.2 (zg_V zw_1568 zw_1570 zw_41 zw_109 zw_1571) rfl rfl rfl (by decide +kernel) ⟨(Nat.le_of_ble_eq_true rfl), (Nat.le_of_ble_eq_true rfl)⟩) ⟨(Nat.le_of_ble_eq_true rfl), (Nat.le_of_ble_eq_true rfl)⟩ 11 rfl rfl 18 (by decide +kernel) fr_X13_isSign) (xe_a4 (xe_crV S hEx hE hAB hA hK hth (kx_X13_bad l D k B0 ad al sw) (cwV 1 S.2.2.2.2 (zg_V zw_1522 zw_1524 zw_31 zw_109 zw_1525) rfl rfl rfl (by decide +kernel) ⟨(Nat.le_of_ble_eq_true rfl), (Nat.le_of_ble_eq_true rfl)⟩) ⟨(Nat.le_of_ble_eq_true rfl), (Nat.le_of_ble_eq_true rfl)⟩ 11 rfl rfl 18 (by decide +kernel) fr_X13_bad) (xe_a4 (xe_crV S hEx hE hAB hA hK hth (kx_X13_next l D k B0 ad al sw) (cwV 0 S.2.2.2.2 (zg_V zw_1499 zw_1501 zw_27 zw_109 zw_1502) rfl rfl rfl (by decide +kernel) ⟨(Nat.le_of_ble_eq_true rfl), (Nat.le_of_ble_eq_true rfl)⟩) ⟨(Nat.le_of_ble_eq_true rfl), (Nat.le_of_ble_eq_true rfl)⟩ 11 rfl rfl 18 (by decide +kernel) fr_X13_next) xe_n4))
  · exact xe_n4
set_option maxRecDepth 100000 in
theorem pt_X13_sign_0 {a1 : Int32} {I I1 I2 : Nat → Nat → Int32} {L L1 L2 : Nat → Nat → Int64} (c1 : fx_X13_isSign [.int a1, .ref 18] (I, L) (some (.int 1)) (I1, L1)) (c2 : fx_X13_next [.ref 18] (I1, L1) none (I2, L2)) : ∃ n, xr_X13_sign n (0, [(0, .ref 18), (1, .int a1)], [], (I, L)) (some (.int (1 : Int32))) (I2, L2) := by
  refine xe_go 1 (s' := (2, [(0, .ref 18), (1, .int a1)], [.int a1, .ref 18], (I, L))) rfl ?_
  refine xe_vir (n := 2) (f := fx_X13_isSign) rfl (Nat.le_of_ble_eq_true rfl) (List.mem_of_getElem? (i := 0) rfl) (Nat.le_of_ble_eq_true rfl) c1 ?_
  refine xe_go 1 (s' := (15, [(0, .ref 18), (1, .int a1)], [.ref 18], (I1, L1))) rfl ?_
  refine xe_vir (n := 1) (f := fx_X13_next) rfl (Nat.le_of_ble_eq_true rfl) (List.mem_of_getElem? (i := 2) rfl) (Nat.le_of_ble_eq_true rfl) c2 ?_
  refine xe_go 0 (s' := (19, [(0, .ref 18), (1, .int a1)], [.int (1 : Int32)], (I2, L2))) rfl ?_
  exact xe_end rfl rfl rfl
set_option maxRecDepth 100000 in
theorem pt_X13_sign_1 {a1 : Int32} {I I1 I2 : Nat → Nat → Int32} {L L1 L2 : Nat → Nat → Int64} (c1 : fx_X13_isSign [.int a1, .ref 18] (I, L) (some (.int 0)) (I1, L1)) (c2 : fx_X13_bad [.int (1 : Int32), .ref 18] (I1, L1) (some (.int 0)) (I2, L2)) : ∃ n, xr_X13_sign n (0, [(0, .ref 18), (1, .int a1)], [], (I, L)) (some (.int 0)) (I2, L2) := by
  refine xe_go 1 (s' := (2, [(0, .ref 18), (1, .int a1)], [.int a1, .ref 18], (I, L))) rfl ?_
  refine xe_vir (n := 2) (f := fx_X13_isSign) rfl (Nat.le_of_ble_eq_true rfl) (List.mem_of_getElem? (i := 0) rfl) (Nat.le_of_ble_eq_true rfl) c1 ?_
  refine xe_go 2 (s' := (10, [(0, .ref 18), (1, .int a1)], [.int (1 : Int32), .ref 18], (I1, L1))) rfl ?_
  refine xe_vir (n := 2) (f := fx_X13_bad) rfl (Nat.le_of_ble_eq_true rfl) (List.mem_of_getElem? (i := 1) rfl) (Nat.le_of_ble_eq_true rfl) c2 ?_
  exact xe_end rfl rfl rfl
def xi_X13_isName : List (Nat × Nat × Instr) := [(0, 1, .aload_n 0), (1, 3, .getfield 140), (4, 1, .iconst 1), (5, 3, .if_icmp .ne 7), (8, 1, .iconst 1), (9, 3, .goto 4), (12, 1, .iconst 0), (13, 1, .istore_n 1), (14, 1, .iconst 0), (15, 1, .istore_n 2), (16, 1, .iload_n 2), (17, 2, .bipush 23), (19, 3, .if_icmp .ge 33), (22, 1, .iload_n 1), (23, 3, .ifCond .eq 21), (26, 1, .aload_n 0), (27, 3, .getfield 153), (30, 1, .aload_n 0), (31, 3, .getfield 47), (34, 1, .iload_n 2), (35, 1, .laload), (36, 1, .lcmp), (37, 3, .ifCond .eq 7), (40, 1, .iconst 1), (41, 3, .goto 4), (44, 1, .iconst 0), (45, 1, .istore_n 1), (46, 3, .iinc 2 1), (49, 3, .goto (-33)), (52, 1, .iload_n 1), (53, 1, .ireturn)]
def xg_X13_isName : zf_ft := [(140, 11, 11, .inl (0, 0)), (153, 11, 17, .inl (0, 0)), (47, 11, 10, .inl (0, 0))]
def xp_X13_isName : zf_ft := []
def xv_X13_isName : List (Nat × Nat × xe_F) := []
def xt_X13_isName : List (Nat × Nat × xe_F) := []
abbrev xr_X13_isName := xe_run xGT xSC xRF 3 xg_X13_isName xp_X13_isName [] [] xv_X13_isName xt_X13_isName xi_X13_isName
def fx_X13_isName : xe_F := fun us hp v hp' => (us.map fun v => v.category).sum ≤ 3 ∧ xe_rt (some .boolean) v ∧ (∃ ar, us = ar ++ [.ref 18]) ∧ ∃ n, xr_X13_isName n (0, xe_ag 0 us.reverse, [], hp) v hp'
theorem mk_X13_isName  {hp hp' : xe_H} {v : Option Value} (hr : xe_rt (some .boolean) v) (h : ∃ n, xr_X13_isName n (0, [(0, .ref 18)], [], hp) v hp') : fx_X13_isName [.ref 18] hp v hp' := ⟨Nat.le_of_ble_eq_true rfl, hr, ⟨[], rfl⟩, h⟩
theorem hx_X13_isName : ∀ us hp v hp', fx_X13_isName us hp v hp' → (us.map fun v => v.category).sum ≤ 3 ∧ xe_rt (some .boolean) v ∧ ∃ n, xr_X13_isName n (0, xe_ag 0 us.reverse, [], hp) v hp' := fun us hp v hp' h => ⟨h.1, h.2.1, h.2.2.2⟩
theorem fr_X13_isName : ∀ us hp v hp', fx_X13_isName us hp v hp' → ∃ ar, us = ar ++ [.ref 18] := fun us hp v hp' h => h.2.2.1
set_option maxRecDepth 100000 in
set_option maxHeartbeats 4000000 in
theorem kx_X13_isName (l : Launch) (D : va_G) (k : Nat → ClassId) (B0 : Nat) (ad : Nat → Nat) (al sw : Nat) : xe_Con l yX13_isName (zw yX13_isName cX13_isName 3 (some .boolean)) ({ frames := 0, cells := 0, slots := 0, locals := 0 }) D k ad (zEx B0 ad al sw) xGT xSC xRF fx_X13_isName := by
  have hEx := zEx_ok B0 ad al sw
  refine xe_mk (cc := cX13_isName) (nL := 3) (ret := (some .boolean)) (fg := xg_X13_isName) (fp := xp_X13_isName) (sg := []) (lc := []) (cv := xv_X13_isName) (cs := xt_X13_isName) (ins := xi_X13_isName) (by decide) rfl hEx (by decide +kernel) hx_X13_isName ?_
  intro p e s m args below meth c Q Sg w0 A θ S hK hE hAB hA hth
  refine ⟨?_, ?_, ?_, ?_, ?_, ?_⟩
  · exact zf_ac ((fun H locs ws a q0 fs v rest pc ls hP he hv hdg kk => va_get (D := D) (ci := 11) (C := RX13) (T := TX13) (N := 47) (own := RX13) S.1 S.2.1 S.2.2.2.2 (zg_in inW_X13) S.2.2.2.1 hK hP q0 he rfl 11 (by decide) (S.2.2.2.2 (.fieldLink RX13 140 "RungMoneyModel" "token" "I") (List.mem_cons_of_mem _ zw_1359)) (fun _ h9 => h9) hv hdg kk)) (zf_ac ((fun H locs ws a q0 fs v rest pc ls hP he hv hdg kk => va_get (D := D) (ci := 11) (C := RX13) (T := TX13) (N := 47) (own := RX13) S.1 S.2.1 S.2.2.2.2 (zg_in inW_X13) S.2.2.2.1 hK hP q0 he rfl 17 (by decide) (S.2.2.2.2 (.fieldLink RX13 153 "RungMoneyModel" "word" "J") (List.mem_cons_of_mem _ zw_1365)) (fun _ h9 => h9) hv hdg kk)) (zf_ac ((fun H locs ws a q0 fs v rest pc ls hP he hv hdg kk => va_get (D := D) (ci := 11) (C := RX13) (T := TX13) (N := 47) (own := RX13) S.1 S.2.1 S.2.2.2.2 (zg_in inW_X13) S.2.2.2.1 hK hP q0 he rfl 10 (by decide) (S.2.2.2.2 (.fieldLink RX13 47 "RungMoneyModel" "reserved" "[J") (List.mem_cons_of_mem _ zw_1358)) (fun _ h9 => h9) hv hdg kk)) zf_an))
  · exact zf_an
  · exact xe_n2
  · exact xe_n3
  · exact xe_n4
  · exact xe_n4
set_option maxRecDepth 100000 in
theorem pt_X13_isName_0 {I : Nat → Nat → Int32} {L : Nat → Nat → Int64} (h1 : (xe_cmp .ne (I 18 11) (1 : Int32)) = true) {v9 : Option Value} {hp9 : xe_H} (r9 : ∃ n, xr_X13_isName n (16, [(0, .ref 18), (1, .int (0 : Int32)), (2, .int (0 : Int32))], [], (I, L)) v9 hp9) : ∃ n, xr_X13_isName n (0, [(0, .ref 18)], [], (I, L)) v9 hp9 := by
  refine xe_bT 3 (A := (12, [(0, .ref 18)], [], (I, L))) (B := (8, [(0, .ref 18)], [], (I, L))) h1 rfl ?_
  refine xe_go 3 (s' := (16, [(0, .ref 18), (1, .int (0 : Int32)), (2, .int (0 : Int32))], [], (I, L))) rfl ?_
  exact xe_nrm [0, 1, 2] rfl r9
set_option maxRecDepth 100000 in
theorem pt_X13_isName_1 {I : Nat → Nat → Int32} {L : Nat → Nat → Int64} (h1 : (xe_cmp .ne (I 18 11) (1 : Int32)) = false) {v9 : Option Value} {hp9 : xe_H} (r9 : ∃ n, xr_X13_isName n (16, [(0, .ref 18), (1, .int (1 : Int32)), (2, .int (0 : Int32))], [], (I, L)) v9 hp9) : ∃ n, xr_X13_isName n (0, [(0, .ref 18)], [], (I, L)) v9 hp9 := by
  refine xe_bF 3 (A := (12, [(0, .ref 18)], [], (I, L))) (B := (8, [(0, .ref 18)], [], (I, L))) h1 rfl ?_
  refine xe_go 4 (s' := (16, [(0, .ref 18), (1, .int (1 : Int32)), (2, .int (0 : Int32))], [], (I, L))) rfl ?_
  exact xe_nrm [0, 1, 2] rfl r9
set_option maxRecDepth 100000 in
theorem pt_X13_isName_2 {l1 l2 : Int32} {I : Nat → Nat → Int32} {L : Nat → Nat → Int64} (h1 : (xe_cmp .ge l2 (23 : Int32)) = true) : ∃ n, xr_X13_isName n (16, [(0, .ref 18), (1, .int l1), (2, .int l2)], [], (I, L)) (some (.int l1)) (I, L) := by
  refine xe_bT 2 (A := (52, [(0, .ref 18), (1, .int l1), (2, .int l2)], [], (I, L))) (B := (22, [(0, .ref 18), (1, .int l1), (2, .int l2)], [], (I, L))) h1 rfl ?_
  refine xe_go 0 (s' := (53, [(0, .ref 18), (1, .int l1), (2, .int l2)], [.int l1], (I, L))) rfl ?_
  exact xe_end rfl rfl rfl
set_option maxRecDepth 100000 in
theorem pt_X13_isName_3 {l1 l2 : Int32} {I : Nat → Nat → Int32} {L : Nat → Nat → Int64} (h1 : (xe_cmp .ge l2 (23 : Int32)) = false) (h2 : (xe_cmp .eq l1 0) = true) {v9 : Option Value} {hp9 : xe_H} (r9 : ∃ n, xr_X13_isName n (16, [(0, .ref 18), (1, .int (0 : Int32)), (2, .int (l2 + (1 : Int32)))], [], (I, L)) v9 hp9) : ∃ n, xr_X13_isName n (16, [(0, .ref 18), (1, .int l1), (2, .int l2)], [], (I, L)) v9 hp9 := by
  refine xe_bF 2 (A := (52, [(0, .ref 18), (1, .int l1), (2, .int l2)], [], (I, L))) (B := (22, [(0, .ref 18), (1, .int l1), (2, .int l2)], [], (I, L))) h1 rfl ?_
  refine xe_bT 1 (A := (44, [(0, .ref 18), (1, .int l1), (2, .int l2)], [], (I, L))) (B := (26, [(0, .ref 18), (1, .int l1), (2, .int l2)], [], (I, L))) h2 rfl ?_
  refine xe_go 3 (s' := (16, [(0, .ref 18), (1, .int (0 : Int32)), (2, .int (l2 + (1 : Int32)))], [], (I, L))) rfl ?_
  exact xe_nrm [0, 1, 2] rfl r9
set_option maxRecDepth 100000 in
theorem pt_X13_isName_4 {l1 l2 : Int32} {I : Nat → Nat → Int32} {L : Nat → Nat → Int64} (h1 : (xe_cmp .ge l2 (23 : Int32)) = false) (h2 : (xe_cmp .eq l1 0) = false) (h3 : xe_ib l2 23 = true) (h4 : (xe_cmp .eq (lg_cmp (L 18 17) (L 24 ((l2).toInt.toNat))) 0) = true) {v9 : Option Value} {hp9 : xe_H} (r9 : ∃ n, xr_X13_isName n (16, [(0, .ref 18), (1, .int (0 : Int32)), (2, .int (l2 + (1 : Int32)))], [], (I, L)) v9 hp9) : ∃ n, xr_X13_isName n (16, [(0, .ref 18), (1, .int l1), (2, .int l2)], [], (I, L)) v9 hp9 := by
  refine xe_bF 2 (A := (52, [(0, .ref 18), (1, .int l1), (2, .int l2)], [], (I, L))) (B := (22, [(0, .ref 18), (1, .int l1), (2, .int l2)], [], (I, L))) h1 rfl ?_
  refine xe_bF 1 (A := (44, [(0, .ref 18), (1, .int l1), (2, .int l2)], [], (I, L))) (B := (26, [(0, .ref 18), (1, .int l1), (2, .int l2)], [], (I, L))) h2 rfl ?_
  refine xe_ar 5 (A := (36, [(0, .ref 18), (1, .int l1), (2, .int l2)], [.long (L 24 ((l2).toInt.toNat)), .long (L 18 17)], (I, L))) h3 rfl ?_
  refine xe_bT 1 (A := (44, [(0, .ref 18), (1, .int l1), (2, .int l2)], [], (I, L))) (B := (40, [(0, .ref 18), (1, .int l1), (2, .int l2)], [], (I, L))) h4 rfl ?_
  refine xe_go 3 (s' := (16, [(0, .ref 18), (1, .int (0 : Int32)), (2, .int (l2 + (1 : Int32)))], [], (I, L))) rfl ?_
  exact xe_nrm [0, 1, 2] rfl r9
set_option maxRecDepth 100000 in
theorem pt_X13_isName_5 {l1 l2 : Int32} {I : Nat → Nat → Int32} {L : Nat → Nat → Int64} (h1 : (xe_cmp .ge l2 (23 : Int32)) = false) (h2 : (xe_cmp .eq l1 0) = false) (h3 : xe_ib l2 23 = true) (h4 : (xe_cmp .eq (lg_cmp (L 18 17) (L 24 ((l2).toInt.toNat))) 0) = false) {v9 : Option Value} {hp9 : xe_H} (r9 : ∃ n, xr_X13_isName n (16, [(0, .ref 18), (1, .int (1 : Int32)), (2, .int (l2 + (1 : Int32)))], [], (I, L)) v9 hp9) : ∃ n, xr_X13_isName n (16, [(0, .ref 18), (1, .int l1), (2, .int l2)], [], (I, L)) v9 hp9 := by
  refine xe_bF 2 (A := (52, [(0, .ref 18), (1, .int l1), (2, .int l2)], [], (I, L))) (B := (22, [(0, .ref 18), (1, .int l1), (2, .int l2)], [], (I, L))) h1 rfl ?_
  refine xe_bF 1 (A := (44, [(0, .ref 18), (1, .int l1), (2, .int l2)], [], (I, L))) (B := (26, [(0, .ref 18), (1, .int l1), (2, .int l2)], [], (I, L))) h2 rfl ?_
  refine xe_ar 5 (A := (36, [(0, .ref 18), (1, .int l1), (2, .int l2)], [.long (L 24 ((l2).toInt.toNat)), .long (L 18 17)], (I, L))) h3 rfl ?_
  refine xe_bF 1 (A := (44, [(0, .ref 18), (1, .int l1), (2, .int l2)], [], (I, L))) (B := (40, [(0, .ref 18), (1, .int l1), (2, .int l2)], [], (I, L))) h4 rfl ?_
  refine xe_go 4 (s' := (16, [(0, .ref 18), (1, .int (1 : Int32)), (2, .int (l2 + (1 : Int32)))], [], (I, L))) rfl ?_
  exact xe_nrm [0, 1, 2] rfl r9
def xi_X13_takes : List (Nat × Nat × Instr) := [(0, 1, .aload_n 0), (1, 3, .getfield 140), (4, 1, .iconst 2), (5, 3, .if_icmp .eq 9), (8, 1, .aload_n 0), (9, 1, .iconst 1), (10, 3, .invokevirtual 168), (13, 1, .ireturn), (14, 1, .aload_n 0), (15, 3, .getfield 150), (18, 1, .iload_n 1), (19, 1, .iload_n 2), (20, 3, .invokestatic 174), (23, 3, .ifCond .ne 9), (26, 1, .aload_n 0), (27, 1, .iconst 2), (28, 3, .invokevirtual 168), (31, 1, .ireturn), (32, 1, .aload_n 0), (33, 1, .aload_n 0), (34, 3, .getfield 150), (37, 3, .putfield 178), (40, 1, .aload_n 0), (41, 3, .invokevirtual 171), (44, 1, .iconst 1), (45, 1, .ireturn)]
def xg_X13_takes : zf_ft := [(140, 11, 11, .inl (0, 0)), (150, 11, 14, .inl (0, 0))]
def xp_X13_takes : zf_ft := [(178, 11, 18, .inl ((-2147483648), 2147483647))]
def xv_X13_takes : List (Nat × Nat × xe_F) := [(168, 2, fx_X13_bad), (171, 1, fx_X13_next)]
def xt_X13_takes : List (Nat × Nat × xe_F) := [(174, 3, fx_X13_isIn)]
abbrev xr_X13_takes := xe_run xGT xSC xRF 3 xg_X13_takes xp_X13_takes [] [] xv_X13_takes xt_X13_takes xi_X13_takes
def fx_X13_takes : xe_F := fun us hp v hp' => (us.map fun v => v.category).sum ≤ 3 ∧ xe_rt (some .boolean) v ∧ (∃ ar, us = ar ++ [.ref 18]) ∧ ∃ n, xr_X13_takes n (0, xe_ag 0 us.reverse, [], hp) v hp'
theorem mk_X13_takes {a1 : Int32} {a2 : Int32} {hp hp' : xe_H} {v : Option Value} (hr : xe_rt (some .boolean) v) (h : ∃ n, xr_X13_takes n (0, [(0, .ref 18), (1, .int a1), (2, .int a2)], [], hp) v hp') : fx_X13_takes [.int a2, .int a1, .ref 18] hp v hp' := ⟨Nat.le_of_ble_eq_true rfl, hr, ⟨[.int a2, .int a1], rfl⟩, h⟩
theorem hx_X13_takes : ∀ us hp v hp', fx_X13_takes us hp v hp' → (us.map fun v => v.category).sum ≤ 3 ∧ xe_rt (some .boolean) v ∧ ∃ n, xr_X13_takes n (0, xe_ag 0 us.reverse, [], hp) v hp' := fun us hp v hp' h => ⟨h.1, h.2.1, h.2.2.2⟩
theorem fr_X13_takes : ∀ us hp v hp', fx_X13_takes us hp v hp' → ∃ ar, us = ar ++ [.ref 18] := fun us hp v hp' h => h.2.2.1
set_option maxRecDepth 100000 in
set_option maxHeartbeats 4000000 in
theorem kx_X13_takes (l : Launch) (D : va_G) (k : Nat → ClassId) (B0 : Nat) (ad : Nat → Nat) (al sw : Nat) : xe_Con l yX13_takes (zw yX13_takes cX13_takes 3 (some .boolean)) ({ frames := 2, cells := 0, slots := 0, locals := 43 }) D k ad (zEx B0 ad al sw) xGT xSC xRF fx_X13_takes := by
  have hEx := zEx_ok B0 ad al sw
  refine xe_mk (cc := cX13_takes) (nL := 3) (ret := (some .boolean)) (fg := xg_X13_takes) (fp := xp_X13_takes) (sg := []) (lc := []) (cv := xv_X13_takes) (cs := xt_X13_takes) (ins := xi_X13_takes) (by decide) rfl hEx (by decide +kernel) hx_X13_takes ?_
  intro p e s m args below meth c Q Sg w0 A θ S hK hE hAB hA hth
  refine ⟨?_, ?_, ?_, ?_, ?_, ?_⟩
  · exact zf_ac ((fun H locs ws a q0 fs v rest pc ls hP he hv hdg kk => va_get (D := D) (ci := 11) (C := RX13) (T := TX13) (N := 47) (own := RX13) S.1 S.2.1 S.2.2.2.2 (zg_in inW_X13) S.2.2.2.1 hK hP q0 he rfl 11 (by decide) (S.2.2.2.2 (.fieldLink RX13 140 "RungMoneyModel" "token" "I") (List.mem_cons_of_mem _ zw_1359)) (fun _ h9 => h9) hv hdg kk)) (zf_ac ((fun H locs ws a q0 fs v rest pc ls hP he hv hdg kk => va_get (D := D) (ci := 11) (C := RX13) (T := TX13) (N := 47) (own := RX13) S.1 S.2.1 S.2.2.2.2 (zg_in inW_X13) S.2.2.2.1 hK hP q0 he rfl 14 (by decide) (S.2.2.2.2 (.fieldLink RX13 150 "RungMoneyModel" "number" "I") (List.mem_cons_of_mem _ zw_1362)) (fun _ h9 => h9) hv hdg kk)) zf_an)
  · exact zf_ac ((fun H locs ws a q0 fs v rest pc ls hP hD hS he hl hv hdg kk => by obtain ⟨x, rfl, h1, h2⟩ := hv; exact va_put (D := D) (ci := 11) (v := .int x) (ty := .int) (C := RX13) (T := TX13) (N := 47) (own := RX13) S.1 S.2.1 S.2.2.2.2 (zg_in inW_X13) tyX13 tyX13_ok nmX13 S.2.2.2.1 hK hP hD hS q0 he rfl 18 (by decide) (S.2.2.2.2 (.fieldLink RX13 178 "RungMoneyModel" "got" "I") (List.mem_cons_of_mem _ zw_1366)) (fun _ h9 => h9) rfl (by decide +kernel) rfl rfl hl hdg kk)) zf_an
  · exact xe_n2
  · exact xe_n3
  · exact xe_a4 (xe_crV S hEx hE hAB hA hK hth (kx_X13_bad l D k B0 ad al sw) (cwV 1 S.2.2.2.2 (zg_V zw_1522 zw_1524 zw_31 zw_109 zw_1525) rfl rfl rfl (by decide +kernel) ⟨(Nat.le_of_ble_eq_true rfl), (Nat.le_of_ble_eq_true rfl)⟩) ⟨(Nat.le_of_ble_eq_true rfl), (Nat.le_of_ble_eq_true rfl)⟩ 11 rfl rfl 18 (by decide +kernel) fr_X13_bad) (xe_a4 (xe_crV S hEx hE hAB hA hK hth (kx_X13_next l D k B0 ad al sw) (cwV 0 S.2.2.2.2 (zg_V zw_1499 zw_1501 zw_27 zw_109 zw_1502) rfl rfl rfl (by decide +kernel) ⟨(Nat.le_of_ble_eq_true rfl), (Nat.le_of_ble_eq_true rfl)⟩) ⟨(Nat.le_of_ble_eq_true rfl), (Nat.le_of_ble_eq_true rfl)⟩ 11 rfl rfl 18 (by decide +kernel) fr_X13_next) xe_n4)
  · exact xe_a4 (xe_crS S hEx hE hAB hA hK hth (kx_X13_isIn l D k B0 ad al sw) (va_cwS 3 S.2.2.2.2 (zg_S zw_1561 zw_1562 zw_109 zw_1563) rfl rfl rfl (by decide +kernel) ⟨(Nat.le_of_ble_eq_true rfl), (Nat.le_of_ble_eq_true rfl)⟩) ⟨(Nat.le_of_ble_eq_true rfl), (Nat.le_of_ble_eq_true rfl)⟩) xe_n4
set_option maxRecDepth 100000 in
theorem pt_X13_takes_0 {a1 a2 : Int32} {I I1 I2 : Nat → Nat → Int32} {L L1 L2 : Nat → Nat → Int64} (h1 : (xe_cmp .eq (I 18 11) (2 : Int32)) = true) (c1 : fx_X13_isIn [.int a2, .int a1, .int (I 18 14)] (I, L) (some (.int 1)) (I1, L1)) (c2 : fx_X13_next [.ref 18] ((xu I1 18 18 (I1 18 14)), L1) none (I2, L2)) : ∃ n, xr_X13_takes n (0, [(0, .ref 18), (1, .int a1), (2, .int a2)], [], (I, L)) (some (.int (1 : Int32))) (I2, L2) := by
  refine xe_bT 3 (A := (14, [(0, .ref 18), (1, .int a1), (2, .int a2)], [], (I, L))) (B := (8, [(0, .ref 18), (1, .int a1), (2, .int a2)], [], (I, L))) h1 rfl ?_
  refine xe_go 3 (s' := (20, [(0, .ref 18), (1, .int a1), (2, .int a2)], [.int a2, .int a1, .int (I 18 14)], (I, L))) rfl ?_
  refine xe_sta (n := 3) (f := fx_X13_isIn) rfl (Nat.le_of_ble_eq_true rfl) (List.mem_of_getElem? (i := 0) rfl) (Nat.le_of_ble_eq_true rfl) c1 ?_
  refine xe_go 5 (s' := (41, [(0, .ref 18), (1, .int a1), (2, .int a2)], [.ref 18], ((xu I1 18 18 (I1 18 14)), L1))) rfl ?_
  refine xe_vir (n := 1) (f := fx_X13_next) rfl (Nat.le_of_ble_eq_true rfl) (List.mem_of_getElem? (i := 1) rfl) (Nat.le_of_ble_eq_true rfl) c2 ?_
  refine xe_go 0 (s' := (45, [(0, .ref 18), (1, .int a1), (2, .int a2)], [.int (1 : Int32)], (I2, L2))) rfl ?_
  exact xe_end rfl rfl rfl
set_option maxRecDepth 100000 in
theorem pt_X13_takes_1 {a1 a2 : Int32} {I I1 I2 : Nat → Nat → Int32} {L L1 L2 : Nat → Nat → Int64} (h1 : (xe_cmp .eq (I 18 11) (2 : Int32)) = true) (c1 : fx_X13_isIn [.int a2, .int a1, .int (I 18 14)] (I, L) (some (.int 0)) (I1, L1)) (c2 : fx_X13_bad [.int (2 : Int32), .ref 18] (I1, L1) (some (.int 0)) (I2, L2)) : ∃ n, xr_X13_takes n (0, [(0, .ref 18), (1, .int a1), (2, .int a2)], [], (I, L)) (some (.int 0)) (I2, L2) := by
  refine xe_bT 3 (A := (14, [(0, .ref 18), (1, .int a1), (2, .int a2)], [], (I, L))) (B := (8, [(0, .ref 18), (1, .int a1), (2, .int a2)], [], (I, L))) h1 rfl ?_
  refine xe_go 3 (s' := (20, [(0, .ref 18), (1, .int a1), (2, .int a2)], [.int a2, .int a1, .int (I 18 14)], (I, L))) rfl ?_
  refine xe_sta (n := 3) (f := fx_X13_isIn) rfl (Nat.le_of_ble_eq_true rfl) (List.mem_of_getElem? (i := 0) rfl) (Nat.le_of_ble_eq_true rfl) c1 ?_
  refine xe_go 2 (s' := (28, [(0, .ref 18), (1, .int a1), (2, .int a2)], [.int (2 : Int32), .ref 18], (I1, L1))) rfl ?_
  refine xe_vir (n := 2) (f := fx_X13_bad) rfl (Nat.le_of_ble_eq_true rfl) (List.mem_of_getElem? (i := 0) rfl) (Nat.le_of_ble_eq_true rfl) c2 ?_
  exact xe_end rfl rfl rfl
set_option maxRecDepth 100000 in
theorem pt_X13_takes_2 {a1 a2 : Int32} {I I1 : Nat → Nat → Int32} {L L1 : Nat → Nat → Int64} (h1 : (xe_cmp .eq (I 18 11) (2 : Int32)) = false) (c1 : fx_X13_bad [.int (1 : Int32), .ref 18] (I, L) (some (.int 0)) (I1, L1)) : ∃ n, xr_X13_takes n (0, [(0, .ref 18), (1, .int a1), (2, .int a2)], [], (I, L)) (some (.int 0)) (I1, L1) := by
  refine xe_bF 3 (A := (14, [(0, .ref 18), (1, .int a1), (2, .int a2)], [], (I, L))) (B := (8, [(0, .ref 18), (1, .int a1), (2, .int a2)], [], (I, L))) h1 rfl ?_
  refine xe_go 1 (s' := (10, [(0, .ref 18), (1, .int a1), (2, .int a2)], [.int (1 : Int32), .ref 18], (I, L))) rfl ?_
  refine xe_vir (n := 2) (f := fx_X13_bad) rfl (Nat.le_of_ble_eq_true rfl) (List.mem_of_getElem? (i := 0) rfl) (Nat.le_of_ble_eq_true rfl) c1 ?_
  exact xe_end rfl rfl rfl
def xi_X13_find : List (Nat × Nat × Instr) := [(0, 1, .iconst 0), (1, 1, .istore_n 3), (2, 1, .iload_n 3), (3, 1, .iload_n 2), (4, 3, .if_icmp .ge 27), (7, 1, .aload_n 0), (8, 3, .getfield 43), (11, 1, .iload_n 1), (12, 1, .iload_n 3), (13, 1, .iadd), (14, 1, .laload), (15, 1, .aload_n 0), (16, 3, .getfield 153), (19, 1, .lcmp), (20, 3, .ifCond .ne 5), (23, 1, .iload_n 3), (24, 1, .ireturn), (25, 3, .iinc 3 1), (28, 3, .goto (-26)), (31, 1, .iconst (-1)), (32, 1, .ireturn)]
def xg_X13_find : zf_ft := [(43, 11, 9, .inl (0, 0)), (153, 11, 17, .inl (0, 0))]
def xp_X13_find : zf_ft := []
def xv_X13_find : List (Nat × Nat × xe_F) := []
def xt_X13_find : List (Nat × Nat × xe_F) := []
abbrev xr_X13_find := xe_run xGT xSC xRF 4 xg_X13_find xp_X13_find [] [] xv_X13_find xt_X13_find xi_X13_find
def fx_X13_find : xe_F := fun us hp v hp' => (us.map fun v => v.category).sum ≤ 4 ∧ xe_rt (some .int) v ∧ (∃ ar, us = ar ++ [.ref 18]) ∧ ∃ n, xr_X13_find n (0, xe_ag 0 us.reverse, [], hp) v hp'
theorem mk_X13_find {a1 : Int32} {a2 : Int32} {hp hp' : xe_H} {v : Option Value} (hr : xe_rt (some .int) v) (h : ∃ n, xr_X13_find n (0, [(0, .ref 18), (1, .int a1), (2, .int a2)], [], hp) v hp') : fx_X13_find [.int a2, .int a1, .ref 18] hp v hp' := ⟨Nat.le_of_ble_eq_true rfl, hr, ⟨[.int a2, .int a1], rfl⟩, h⟩
theorem hx_X13_find : ∀ us hp v hp', fx_X13_find us hp v hp' → (us.map fun v => v.category).sum ≤ 4 ∧ xe_rt (some .int) v ∧ ∃ n, xr_X13_find n (0, xe_ag 0 us.reverse, [], hp) v hp' := fun us hp v hp' h => ⟨h.1, h.2.1, h.2.2.2⟩
theorem fr_X13_find : ∀ us hp v hp', fx_X13_find us hp v hp' → ∃ ar, us = ar ++ [.ref 18] := fun us hp v hp' h => h.2.2.1
set_option maxRecDepth 100000 in
set_option maxHeartbeats 4000000 in
theorem kx_X13_find (l : Launch) (D : va_G) (k : Nat → ClassId) (B0 : Nat) (ad : Nat → Nat) (al sw : Nat) : xe_Con l yX13_find (zw yX13_find cX13_find 4 (some .int)) ({ frames := 0, cells := 0, slots := 0, locals := 0 }) D k ad (zEx B0 ad al sw) xGT xSC xRF fx_X13_find := by
  have hEx := zEx_ok B0 ad al sw
  refine xe_mk (cc := cX13_find) (nL := 4) (ret := (some .int)) (fg := xg_X13_find) (fp := xp_X13_find) (sg := []) (lc := []) (cv := xv_X13_find) (cs := xt_X13_find) (ins := xi_X13_find) (by decide) rfl hEx (by decide +kernel) hx_X13_find ?_
  intro p e s m args below meth c Q Sg w0 A θ S hK hE hAB hA hth
  refine ⟨?_, ?_, ?_, ?_, ?_, ?_⟩
  · exact zf_ac ((fun H locs ws a q0 fs v rest pc ls hP he hv hdg kk => va_get (D := D) (ci := 11) (C := RX13) (T := TX13) (N := 47) (own := RX13) S.1 S.2.1 S.2.2.2.2 (zg_in inW_X13) S.2.2.2.1 hK hP q0 he rfl 9 (by decide) (S.2.2.2.2 (.fieldLink RX13 43 "RungMoneyModel" "names" "[J") (List.mem_cons_of_mem _ zw_1357)) (fun _ h9 => h9) hv hdg kk)) (zf_ac ((fun H locs ws a q0 fs v rest pc ls hP he hv hdg kk => va_get (D := D) (ci := 11) (C := RX13) (T := TX13) (N := 47) (own := RX13) S.1 S.2.1 S.2.2.2.2 (zg_in inW_X13) S.2.2.2.1 hK hP q0 he rfl 17 (by decide) (S.2.2.2.2 (.fieldLink RX13 153 "RungMoneyModel" "word" "J") (List.mem_cons_of_mem _ zw_1365)) (fun _ h9 => h9) hv hdg kk)) zf_an)
  · exact zf_an
  · exact xe_n2
  · exact xe_n3
  · exact xe_n4
  · exact xe_n4
set_option maxRecDepth 100000 in
theorem pt_X13_find_0 {a1 a2 : Int32} {I : Nat → Nat → Int32} {L : Nat → Nat → Int64} {v9 : Option Value} {hp9 : xe_H} (r9 : ∃ n, xr_X13_find n (2, [(0, .ref 18), (1, .int a1), (2, .int a2), (3, .int (0 : Int32))], [], (I, L)) v9 hp9) : ∃ n, xr_X13_find n (0, [(0, .ref 18), (1, .int a1), (2, .int a2)], [], (I, L)) v9 hp9 := by
  refine xe_go 1 (s' := (2, [(0, .ref 18), (1, .int a1), (2, .int a2), (3, .int (0 : Int32))], [], (I, L))) rfl ?_
  exact xe_nrm [0, 1, 2, 3] rfl r9
set_option maxRecDepth 100000 in
theorem pt_X13_find_1 {l1 l2 l3 : Int32} {I : Nat → Nat → Int32} {L : Nat → Nat → Int64} (h1 : (xe_cmp .ge l3 l2) = true) : ∃ n, xr_X13_find n (2, [(0, .ref 18), (1, .int l1), (2, .int l2), (3, .int l3)], [], (I, L)) (some (.int (Int32.ofInt (-1)))) (I, L) := by
  refine xe_bT 2 (A := (31, [(0, .ref 18), (1, .int l1), (2, .int l2), (3, .int l3)], [], (I, L))) (B := (7, [(0, .ref 18), (1, .int l1), (2, .int l2), (3, .int l3)], [], (I, L))) h1 rfl ?_
  refine xe_go 0 (s' := (32, [(0, .ref 18), (1, .int l1), (2, .int l2), (3, .int l3)], [.int (Int32.ofInt (-1))], (I, L))) rfl ?_
  exact xe_end rfl rfl rfl
set_option maxRecDepth 100000 in
theorem pt_X13_find_2 {l1 l2 l3 : Int32} {I : Nat → Nat → Int32} {L : Nat → Nat → Int64} (h1 : (xe_cmp .ge l3 l2) = false) (h2 : xe_ib (l1 + l3) 12 = true) (h3 : (xe_cmp .ne (lg_cmp (L 23 (((l1 + l3)).toInt.toNat)) (L 18 17)) 0) = true) {v9 : Option Value} {hp9 : xe_H} (r9 : ∃ n, xr_X13_find n (2, [(0, .ref 18), (1, .int l1), (2, .int l2), (3, .int (l3 + (1 : Int32)))], [], (I, L)) v9 hp9) : ∃ n, xr_X13_find n (2, [(0, .ref 18), (1, .int l1), (2, .int l2), (3, .int l3)], [], (I, L)) v9 hp9 := by
  refine xe_bF 2 (A := (31, [(0, .ref 18), (1, .int l1), (2, .int l2), (3, .int l3)], [], (I, L))) (B := (7, [(0, .ref 18), (1, .int l1), (2, .int l2), (3, .int l3)], [], (I, L))) h1 rfl ?_
  refine xe_ar 5 (A := (15, [(0, .ref 18), (1, .int l1), (2, .int l2), (3, .int l3)], [.long (L 23 (((l1 + l3)).toInt.toNat))], (I, L))) h2 rfl ?_
  refine xe_bT 3 (A := (25, [(0, .ref 18), (1, .int l1), (2, .int l2), (3, .int l3)], [], (I, L))) (B := (23, [(0, .ref 18), (1, .int l1), (2, .int l2), (3, .int l3)], [], (I, L))) h3 rfl ?_
  refine xe_go 1 (s' := (2, [(0, .ref 18), (1, .int l1), (2, .int l2), (3, .int (l3 + (1 : Int32)))], [], (I, L))) rfl ?_
  exact xe_nrm [0, 1, 2, 3] rfl r9
set_option maxRecDepth 100000 in
theorem pt_X13_find_3 {l1 l2 l3 : Int32} {I : Nat → Nat → Int32} {L : Nat → Nat → Int64} (h1 : (xe_cmp .ge l3 l2) = false) (h2 : xe_ib (l1 + l3) 12 = true) (h3 : (xe_cmp .ne (lg_cmp (L 23 (((l1 + l3)).toInt.toNat)) (L 18 17)) 0) = false) : ∃ n, xr_X13_find n (2, [(0, .ref 18), (1, .int l1), (2, .int l2), (3, .int l3)], [], (I, L)) (some (.int l3)) (I, L) := by
  refine xe_bF 2 (A := (31, [(0, .ref 18), (1, .int l1), (2, .int l2), (3, .int l3)], [], (I, L))) (B := (7, [(0, .ref 18), (1, .int l1), (2, .int l2), (3, .int l3)], [], (I, L))) h1 rfl ?_
  refine xe_ar 5 (A := (15, [(0, .ref 18), (1, .int l1), (2, .int l2), (3, .int l3)], [.long (L 23 (((l1 + l3)).toInt.toNat))], (I, L))) h2 rfl ?_
  refine xe_bF 3 (A := (25, [(0, .ref 18), (1, .int l1), (2, .int l2), (3, .int l3)], [], (I, L))) (B := (23, [(0, .ref 18), (1, .int l1), (2, .int l2), (3, .int l3)], [], (I, L))) h3 rfl ?_
  refine xe_go 0 (s' := (24, [(0, .ref 18), (1, .int l1), (2, .int l2), (3, .int l3)], [.int l3], (I, L))) rfl ?_
  exact xe_end rfl rfl rfl
def xi_X13_looksAt : List (Nat × Nat × Instr) := [(0, 1, .aload_n 0), (1, 3, .invokevirtual 181), (4, 3, .ifCond .ne 9), (7, 1, .aload_n 0), (8, 1, .iconst 1), (9, 3, .invokevirtual 168), (12, 1, .ireturn), (13, 1, .aload_n 0), (14, 1, .aload_n 0), (15, 1, .iload_n 1), (16, 1, .iload_n 2), (17, 3, .invokevirtual 185), (20, 3, .putfield 178), (23, 1, .aload_n 0), (24, 3, .getfield 178), (27, 3, .ifCond .ge 11), (30, 1, .aload_n 0), (31, 1, .iconst 3), (32, 3, .invokevirtual 168), (35, 3, .ifCond .eq 7), (38, 1, .iconst 1), (39, 3, .goto 4), (42, 1, .iconst 0), (43, 1, .ireturn)]
def xg_X13_looksAt : zf_ft := [(178, 11, 18, .inl (0, 0))]
def xp_X13_looksAt : zf_ft := [(178, 11, 18, .inl ((-2147483648), 2147483647))]
def xv_X13_looksAt : List (Nat × Nat × xe_F) := [(181, 1, fx_X13_isName), (168, 2, fx_X13_bad), (185, 3, fx_X13_find)]
def xt_X13_looksAt : List (Nat × Nat × xe_F) := []
abbrev xr_X13_looksAt := xe_run xGT xSC xRF 3 xg_X13_looksAt xp_X13_looksAt [] [] xv_X13_looksAt xt_X13_looksAt xi_X13_looksAt
def fx_X13_looksAt : xe_F := fun us hp v hp' => (us.map fun v => v.category).sum ≤ 3 ∧ xe_rt (some .boolean) v ∧ (∃ ar, us = ar ++ [.ref 18]) ∧ ∃ n, xr_X13_looksAt n (0, xe_ag 0 us.reverse, [], hp) v hp'
theorem mk_X13_looksAt {a1 : Int32} {a2 : Int32} {hp hp' : xe_H} {v : Option Value} (hr : xe_rt (some .boolean) v) (h : ∃ n, xr_X13_looksAt n (0, [(0, .ref 18), (1, .int a1), (2, .int a2)], [], hp) v hp') : fx_X13_looksAt [.int a2, .int a1, .ref 18] hp v hp' := ⟨Nat.le_of_ble_eq_true rfl, hr, ⟨[.int a2, .int a1], rfl⟩, h⟩
theorem hx_X13_looksAt : ∀ us hp v hp', fx_X13_looksAt us hp v hp' → (us.map fun v => v.category).sum ≤ 3 ∧ xe_rt (some .boolean) v ∧ ∃ n, xr_X13_looksAt n (0, xe_ag 0 us.reverse, [], hp) v hp' := fun us hp v hp' h => ⟨h.1, h.2.1, h.2.2.2⟩
theorem fr_X13_looksAt : ∀ us hp v hp', fx_X13_looksAt us hp v hp' → ∃ ar, us = ar ++ [.ref 18] := fun us hp v hp' h => h.2.2.1
set_option maxRecDepth 100000 in
set_option maxHeartbeats 4000000 in
theorem kx_X13_looksAt (l : Launch) (D : va_G) (k : Nat → ClassId) (B0 : Nat) (ad : Nat → Nat) (al sw : Nat) : xe_Con l yX13_looksAt (zw yX13_looksAt cX13_looksAt 3 (some .boolean)) ({ frames := 1, cells := 0, slots := 0, locals := 23 }) D k ad (zEx B0 ad al sw) xGT xSC xRF fx_X13_looksAt := by
  have hEx := zEx_ok B0 ad al sw
  refine xe_mk (cc := cX13_looksAt) (nL := 3) (ret := (some .boolean)) (fg := xg_X13_looksAt) (fp := xp_X13_looksAt) (sg := []) (lc := []) (cv := xv_X13_looksAt) (cs := xt_X13_looksAt) (ins := xi_X13_looksAt) (by decide) rfl hEx (by decide +kernel) hx_X13_looksAt ?_
  intro p e s m args below meth c Q Sg w0 A θ S hK hE hAB hA hth
  refine ⟨?_, ?_, ?_, ?_, ?_, ?_⟩
  · exact zf_ac ((fun H locs ws a q0 fs v rest pc ls hP he hv hdg kk => va_get (D := D) (ci := 11) (C := RX13) (T := TX13) (N := 47) (own := RX13) S.1 S.2.1 S.2.2.2.2 (zg_in inW_X13) S.2.2.2.1 hK hP q0 he rfl 18 (by decide) (S.2.2.2.2 (.fieldLink RX13 178 "RungMoneyModel" "got" "I") (List.mem_cons_of_mem _ zw_1366)) (fun _ h9 => h9) hv hdg kk)) zf_an
  · exact zf_ac ((fun H locs ws a q0 fs v rest pc ls hP hD hS he hl hv hdg kk => by obtain ⟨x, rfl, h1, h2⟩ := hv; exact va_put (D := D) (ci := 11) (v := .int x) (ty := .int) (C := RX13) (T := TX13) (N := 47) (own := RX13) S.1 S.2.1 S.2.2.2.2 (zg_in inW_X13) tyX13 tyX13_ok nmX13 S.2.2.2.1 hK hP hD hS q0 he rfl 18 (by decide) (S.2.2.2.2 (.fieldLink RX13 178 "RungMoneyModel" "got" "I") (List.mem_cons_of_mem _ zw_1366)) (fun _ h9 => h9) rfl (by decide +kernel) rfl rfl hl hdg kk)) zf_an
  · exact xe_n2
  · exact xe_n3
  · exact xe_a4 (xe_crV S hEx hE hAB hA hK hth (kx_X13_isName l D k B0 ad al sw) (cwV 0 S.2.2.2.2 (zg_V zw_1526 zw_1528 zw_32 zw_109 zw_1529) rfl rfl rfl (by decide +kernel) ⟨(Nat.le_of_ble_eq_true rfl), (Nat.le_of_ble_eq_true rfl)⟩) ⟨(Nat.le_of_ble_eq_true rfl), (Nat.le_of_ble_eq_true rfl)⟩ 11 rfl rfl 18 (by decide +kernel) fr_X13_isName) (xe_a4 (xe_crV S hEx hE hAB hA hK hth (kx_X13_bad l D k B0 ad al sw) (cwV 1 S.2.2.2.2 (zg_V zw_1522 zw_1524 zw_31 zw_109 zw_1525) rfl rfl rfl (by decide +kernel) ⟨(Nat.le_of_ble_eq_true rfl), (Nat.le_of_ble_eq_true rfl)⟩) ⟨(Nat.le_of_ble_eq_true rfl), (Nat.le_of_ble_eq_true rfl)⟩ 11 rfl rfl 18 (by decide +kernel) fr_X13_bad) (xe_a4 (xe_crV S hEx hE hAB hA hK hth (kx_X13_find l D k B0 ad al sw) (cwV 2 S.2.2.2.2 (zg_V zw_1530 zw_1532 zw_33 zw_109 zw_1533) rfl rfl rfl (by decide +kernel) ⟨(Nat.le_of_ble_eq_true rfl), (Nat.le_of_ble_eq_true rfl)⟩) ⟨(Nat.le_of_ble_eq_true rfl), (Nat.le_of_ble_eq_true rfl)⟩ 11 rfl rfl 18 (by decide +kernel) fr_X13_find) xe_n4))
  · exact xe_n4
set_option maxRecDepth 100000 in
theorem pt_X13_looksAt_0 {a1 a2 r2 : Int32} {I I1 I2 : Nat → Nat → Int32} {L L1 L2 : Nat → Nat → Int64} (c1 : fx_X13_isName [.ref 18] (I, L) (some (.int 1)) (I1, L1)) (c2 : fx_X13_find [.int a2, .int a1, .ref 18] (I1, L1) (some (.int r2)) (I2, L2)) (h1 : (xe_cmp .ge r2 0) = true) : ∃ n, xr_X13_looksAt n (0, [(0, .ref 18), (1, .int a1), (2, .int a2)], [], (I, L)) (some (.int (1 : Int32))) ((xu I2 18 18 r2), L2) := by
  refine xe_go 0 (s' := (1, [(0, .ref 18), (1, .int a1), (2, .int a2)], [.ref 18], (I, L))) rfl ?_
  refine xe_vir (n := 1) (f := fx_X13_isName) rfl (Nat.le_of_ble_eq_true rfl) (List.mem_of_getElem? (i := 0) rfl) (Nat.le_of_ble_eq_true rfl) c1 ?_
  refine xe_go 4 (s' := (17, [(0, .ref 18), (1, .int a1), (2, .int a2)], [.int a2, .int a1, .ref 18, .ref 18], (I1, L1))) rfl ?_
  refine xe_vir (n := 3) (f := fx_X13_find) rfl (Nat.le_of_ble_eq_true rfl) (List.mem_of_getElem? (i := 2) rfl) (Nat.le_of_ble_eq_true rfl) c2 ?_
  refine xe_bT 3 (A := (38, [(0, .ref 18), (1, .int a1), (2, .int a2)], [], ((xu I2 18 18 r2), L2))) (B := (30, [(0, .ref 18), (1, .int a1), (2, .int a2)], [], ((xu I2 18 18 r2), L2))) h1 rfl ?_
  refine xe_go 1 (s' := (43, [(0, .ref 18), (1, .int a1), (2, .int a2)], [.int (1 : Int32)], ((xu I2 18 18 r2), L2))) rfl ?_
  exact xe_end rfl rfl rfl
set_option maxRecDepth 100000 in
theorem pt_X13_looksAt_1 {a1 a2 r2 : Int32} {I I1 I2 I3 : Nat → Nat → Int32} {L L1 L2 L3 : Nat → Nat → Int64} (c1 : fx_X13_isName [.ref 18] (I, L) (some (.int 1)) (I1, L1)) (c2 : fx_X13_find [.int a2, .int a1, .ref 18] (I1, L1) (some (.int r2)) (I2, L2)) (h1 : (xe_cmp .ge r2 0) = false) (c3 : fx_X13_bad [.int (3 : Int32), .ref 18] ((xu I2 18 18 r2), L2) (some (.int 0)) (I3, L3)) : ∃ n, xr_X13_looksAt n (0, [(0, .ref 18), (1, .int a1), (2, .int a2)], [], (I, L)) (some (.int (0 : Int32))) (I3, L3) := by
  refine xe_go 0 (s' := (1, [(0, .ref 18), (1, .int a1), (2, .int a2)], [.ref 18], (I, L))) rfl ?_
  refine xe_vir (n := 1) (f := fx_X13_isName) rfl (Nat.le_of_ble_eq_true rfl) (List.mem_of_getElem? (i := 0) rfl) (Nat.le_of_ble_eq_true rfl) c1 ?_
  refine xe_go 4 (s' := (17, [(0, .ref 18), (1, .int a1), (2, .int a2)], [.int a2, .int a1, .ref 18, .ref 18], (I1, L1))) rfl ?_
  refine xe_vir (n := 3) (f := fx_X13_find) rfl (Nat.le_of_ble_eq_true rfl) (List.mem_of_getElem? (i := 2) rfl) (Nat.le_of_ble_eq_true rfl) c2 ?_
  refine xe_bF 3 (A := (38, [(0, .ref 18), (1, .int a1), (2, .int a2)], [], ((xu I2 18 18 r2), L2))) (B := (30, [(0, .ref 18), (1, .int a1), (2, .int a2)], [], ((xu I2 18 18 r2), L2))) h1 rfl ?_
  refine xe_go 1 (s' := (32, [(0, .ref 18), (1, .int a1), (2, .int a2)], [.int (3 : Int32), .ref 18], ((xu I2 18 18 r2), L2))) rfl ?_
  refine xe_vir (n := 2) (f := fx_X13_bad) rfl (Nat.le_of_ble_eq_true rfl) (List.mem_of_getElem? (i := 1) rfl) (Nat.le_of_ble_eq_true rfl) c3 ?_
  refine xe_go 1 (s' := (43, [(0, .ref 18), (1, .int a1), (2, .int a2)], [.int (0 : Int32)], (I3, L3))) rfl ?_
  exact xe_end rfl rfl rfl
set_option maxRecDepth 100000 in
theorem pt_X13_looksAt_2 {a1 a2 : Int32} {I I1 I2 : Nat → Nat → Int32} {L L1 L2 : Nat → Nat → Int64} (c1 : fx_X13_isName [.ref 18] (I, L) (some (.int 0)) (I1, L1)) (c2 : fx_X13_bad [.int (1 : Int32), .ref 18] (I1, L1) (some (.int 0)) (I2, L2)) : ∃ n, xr_X13_looksAt n (0, [(0, .ref 18), (1, .int a1), (2, .int a2)], [], (I, L)) (some (.int 0)) (I2, L2) := by
  refine xe_go 0 (s' := (1, [(0, .ref 18), (1, .int a1), (2, .int a2)], [.ref 18], (I, L))) rfl ?_
  refine xe_vir (n := 1) (f := fx_X13_isName) rfl (Nat.le_of_ble_eq_true rfl) (List.mem_of_getElem? (i := 0) rfl) (Nat.le_of_ble_eq_true rfl) c1 ?_
  refine xe_go 2 (s' := (9, [(0, .ref 18), (1, .int a1), (2, .int a2)], [.int (1 : Int32), .ref 18], (I1, L1))) rfl ?_
  refine xe_vir (n := 2) (f := fx_X13_bad) rfl (Nat.le_of_ble_eq_true rfl) (List.mem_of_getElem? (i := 1) rfl) (Nat.le_of_ble_eq_true rfl) c2 ?_
  exact xe_end rfl rfl rfl
def xi_X13_takesName : List (Nat × Nat × Instr) := [(0, 1, .aload_n 0), (1, 1, .iload_n 1), (2, 1, .iload_n 2), (3, 3, .invokevirtual 189), (6, 3, .ifCond .ne 5), (9, 1, .iconst 0), (10, 1, .ireturn), (11, 1, .aload_n 0), (12, 3, .invokevirtual 171), (15, 1, .iconst 1), (16, 1, .ireturn)]
def xg_X13_takesName : zf_ft := []
def xp_X13_takesName : zf_ft := []
def xv_X13_takesName : List (Nat × Nat × xe_F) := [(189, 3, fx_X13_looksAt), (171, 1, fx_X13_next)]
def xt_X13_takesName : List (Nat × Nat × xe_F) := []
abbrev xr_X13_takesName := xe_run xGT xSC xRF 3 xg_X13_takesName xp_X13_takesName [] [] xv_X13_takesName xt_X13_takesName xi_X13_takesName
def fx_X13_takesName : xe_F := fun us hp v hp' => (us.map fun v => v.category).sum ≤ 3 ∧ xe_rt (some .boolean) v ∧ (∃ ar, us = ar ++ [.ref 18]) ∧ ∃ n, xr_X13_takesName n (0, xe_ag 0 us.reverse, [], hp) v hp'
theorem mk_X13_takesName {a1 : Int32} {a2 : Int32} {hp hp' : xe_H} {v : Option Value} (hr : xe_rt (some .boolean) v) (h : ∃ n, xr_X13_takesName n (0, [(0, .ref 18), (1, .int a1), (2, .int a2)], [], hp) v hp') : fx_X13_takesName [.int a2, .int a1, .ref 18] hp v hp' := ⟨Nat.le_of_ble_eq_true rfl, hr, ⟨[.int a2, .int a1], rfl⟩, h⟩
theorem hx_X13_takesName : ∀ us hp v hp', fx_X13_takesName us hp v hp' → (us.map fun v => v.category).sum ≤ 3 ∧ xe_rt (some .boolean) v ∧ ∃ n, xr_X13_takesName n (0, xe_ag 0 us.reverse, [], hp) v hp' := fun us hp v hp' h => ⟨h.1, h.2.1, h.2.2.2⟩
theorem fr_X13_takesName : ∀ us hp v hp', fx_X13_takesName us hp v hp' → ∃ ar, us = ar ++ [.ref 18] := fun us hp v hp' h => h.2.2.1
set_option maxRecDepth 100000 in
set_option maxHeartbeats 4000000 in
theorem kx_X13_takesName (l : Launch) (D : va_G) (k : Nat → ClassId) (B0 : Nat) (ad : Nat → Nat) (al sw : Nat) : xe_Con l yX13_takesName (zw yX13_takesName cX13_takesName 3 (some .boolean)) ({ frames := 2, cells := 0, slots := 0, locals := 45 }) D k ad (zEx B0 ad al sw) xGT xSC xRF fx_X13_takesName := by
  have hEx := zEx_ok B0 ad al sw
  refine xe_mk (cc := cX13_takesName) (nL := 3) (ret := (some .boolean)) (fg := xg_X13_takesName) (fp := xp_X13_takesName) (sg := []) (lc := []) (cv := xv_X13_takesName) (cs := xt_X13_takesName) (ins := xi_X13_takesName) (by decide) rfl hEx (by decide +kernel) hx_X13_takesName ?_
  intro p e s m args below meth c Q Sg w0 A θ S hK hE hAB hA hth
  refine ⟨?_, ?_, ?_, ?_, ?_, ?_⟩
  · exact zf_an
  · exact zf_an
  · exact xe_n2
  · exact xe_n3
  · exact xe_a4 (xe_crV S hEx hE hAB hA hK hth (kx_X13_looksAt l D k B0 ad al sw) (cwV 2 S.2.2.2.2 (zg_V zw_1538 zw_1540 zw_35 zw_109 zw_1541) rfl rfl rfl (by decide +kernel) ⟨(Nat.le_of_ble_eq_true rfl), (Nat.le_of_ble_eq_true rfl)⟩) ⟨(Nat.le_of_ble_eq_true rfl), (Nat.le_of_ble_eq_true rfl)⟩ 11 rfl rfl 18 (by decide +kernel) fr_X13_looksAt) (xe_a4 (xe_crV S hEx hE hAB hA hK hth (kx_X13_next l D k B0 ad al sw) (cwV 0 S.2.2.2.2 (zg_V zw_1499 zw_1501 zw_27 zw_109 zw_1502) rfl rfl rfl (by decide +kernel) ⟨(Nat.le_of_ble_eq_true rfl), (Nat.le_of_ble_eq_true rfl)⟩) ⟨(Nat.le_of_ble_eq_true rfl), (Nat.le_of_ble_eq_true rfl)⟩ 11 rfl rfl 18 (by decide +kernel) fr_X13_next) xe_n4)
  · exact xe_n4
set_option maxRecDepth 100000 in
theorem pt_X13_takesName_0 {a1 a2 : Int32} {I I1 I2 : Nat → Nat → Int32} {L L1 L2 : Nat → Nat → Int64} (c1 : fx_X13_looksAt [.int a2, .int a1, .ref 18] (I, L) (some (.int 1)) (I1, L1)) (c2 : fx_X13_next [.ref 18] (I1, L1) none (I2, L2)) : ∃ n, xr_X13_takesName n (0, [(0, .ref 18), (1, .int a1), (2, .int a2)], [], (I, L)) (some (.int (1 : Int32))) (I2, L2) := by
  refine xe_go 2 (s' := (3, [(0, .ref 18), (1, .int a1), (2, .int a2)], [.int a2, .int a1, .ref 18], (I, L))) rfl ?_
  refine xe_vir (n := 3) (f := fx_X13_looksAt) rfl (Nat.le_of_ble_eq_true rfl) (List.mem_of_getElem? (i := 0) rfl) (Nat.le_of_ble_eq_true rfl) c1 ?_
  refine xe_go 1 (s' := (12, [(0, .ref 18), (1, .int a1), (2, .int a2)], [.ref 18], (I1, L1))) rfl ?_
  refine xe_vir (n := 1) (f := fx_X13_next) rfl (Nat.le_of_ble_eq_true rfl) (List.mem_of_getElem? (i := 1) rfl) (Nat.le_of_ble_eq_true rfl) c2 ?_
  refine xe_go 0 (s' := (16, [(0, .ref 18), (1, .int a1), (2, .int a2)], [.int (1 : Int32)], (I2, L2))) rfl ?_
  exact xe_end rfl rfl rfl
set_option maxRecDepth 100000 in
theorem pt_X13_takesName_1 {a1 a2 : Int32} {I I1 : Nat → Nat → Int32} {L L1 : Nat → Nat → Int64} (c1 : fx_X13_looksAt [.int a2, .int a1, .ref 18] (I, L) (some (.int 0)) (I1, L1)) : ∃ n, xr_X13_takesName n (0, [(0, .ref 18), (1, .int a1), (2, .int a2)], [], (I, L)) (some (.int (0 : Int32))) (I1, L1) := by
  refine xe_go 2 (s' := (3, [(0, .ref 18), (1, .int a1), (2, .int a2)], [.int a2, .int a1, .ref 18], (I, L))) rfl ?_
  refine xe_vir (n := 3) (f := fx_X13_looksAt) rfl (Nat.le_of_ble_eq_true rfl) (List.mem_of_getElem? (i := 0) rfl) (Nat.le_of_ble_eq_true rfl) c1 ?_
  refine xe_go 1 (s' := (10, [(0, .ref 18), (1, .int a1), (2, .int a2)], [.int (0 : Int32)], (I1, L1))) rfl ?_
  exact xe_end rfl rfl rfl
def xi_X13_kindOf : List (Nat × Nat × Instr) := [(0, 1, .iload_n 0), (1, 31, .tableswitch 37 112 115 #[35, 37, 33, 31]), (32, 1, .iconst 0), (33, 1, .ireturn), (34, 1, .iconst 1), (35, 1, .ireturn), (36, 1, .iconst 2), (37, 1, .ireturn), (38, 1, .iconst (-1)), (39, 1, .ireturn)]
def xg_X13_kindOf : zf_ft := []
def xp_X13_kindOf : zf_ft := []
def xv_X13_kindOf : List (Nat × Nat × xe_F) := []
def xt_X13_kindOf : List (Nat × Nat × xe_F) := []
abbrev xr_X13_kindOf := xe_run xGT xSC xRF 1 xg_X13_kindOf xp_X13_kindOf [] [] xv_X13_kindOf xt_X13_kindOf xi_X13_kindOf
def fx_X13_kindOf : xe_F := fun us hp v hp' => (us.map fun v => v.category).sum ≤ 1 ∧ xe_rt (some .int) v ∧ True ∧ ∃ n, xr_X13_kindOf n (0, xe_ag 0 us.reverse, [], hp) v hp'
theorem mk_X13_kindOf {a0 : Int32} {hp hp' : xe_H} {v : Option Value} (hr : xe_rt (some .int) v) (h : ∃ n, xr_X13_kindOf n (0, [(0, .int a0)], [], hp) v hp') : fx_X13_kindOf [.int a0] hp v hp' := ⟨Nat.le_of_ble_eq_true rfl, hr, trivial, h⟩
theorem hx_X13_kindOf : ∀ us hp v hp', fx_X13_kindOf us hp v hp' → (us.map fun v => v.category).sum ≤ 1 ∧ xe_rt (some .int) v ∧ ∃ n, xr_X13_kindOf n (0, xe_ag 0 us.reverse, [], hp) v hp' := fun us hp v hp' h => ⟨h.1, h.2.1, h.2.2.2⟩
set_option maxRecDepth 100000 in
set_option maxHeartbeats 4000000 in
theorem kx_X13_kindOf (l : Launch) (D : va_G) (k : Nat → ClassId) (B0 : Nat) (ad : Nat → Nat) (al sw : Nat) : xe_Con l yX13_kindOf (zw yX13_kindOf cX13_kindOf 1 (some .int)) ({ frames := 0, cells := 0, slots := 0, locals := 0 }) D k ad (zEx B0 ad al sw) xGT xSC xRF fx_X13_kindOf := by
  have hEx := zEx_ok B0 ad al sw
  refine xe_mk (cc := cX13_kindOf) (nL := 1) (ret := (some .int)) (fg := xg_X13_kindOf) (fp := xp_X13_kindOf) (sg := []) (lc := []) (cv := xv_X13_kindOf) (cs := xt_X13_kindOf) (ins := xi_X13_kindOf) (by decide) rfl hEx (by decide +kernel) hx_X13_kindOf ?_
  intro p e s m args below meth c Q Sg w0 A θ S hK hE hAB hA hth
  refine ⟨?_, ?_, ?_, ?_, ?_, ?_⟩
  · exact zf_an
  · exact zf_an
  · exact xe_n2
  · exact xe_n3
  · exact xe_n4
  · exact xe_n4
set_option maxRecDepth 100000 in
theorem pt_X13_kindOf_0 {a0 : Int32} {I : Nat → Nat → Int32} {L : Nat → Nat → Int64} (h1 : (decide (Int32.toInt a0 < 112) || decide (115 < Int32.toInt a0)) = true) : ∃ n, xr_X13_kindOf n (0, [(0, .int a0)], [], (I, L)) (some (.int (Int32.ofInt (-1)))) (I, L) := by
  refine xe_bT 1 (A := (38, [(0, .int a0)], [], (I, L))) (B := _) h1 rfl ?_
  refine xe_go 0 (s' := (39, [(0, .int a0)], [.int (Int32.ofInt (-1))], (I, L))) rfl ?_
  exact xe_end rfl rfl rfl
set_option maxRecDepth 100000 in
theorem pt_X13_kindOf_1 {I : Nat → Nat → Int32} {L : Nat → Nat → Int64}  : ∃ n, xr_X13_kindOf n (0, [(0, .int (115 : Int32))], [], (I, L)) (some (.int (0 : Int32))) (I, L) := by
  refine xe_go 2 (s' := (33, [(0, .int (115 : Int32))], [.int (0 : Int32)], (I, L))) rfl ?_
  exact xe_end rfl rfl rfl
set_option maxRecDepth 100000 in
theorem pt_X13_kindOf_2 {I : Nat → Nat → Int32} {L : Nat → Nat → Int64}  : ∃ n, xr_X13_kindOf n (0, [(0, .int (114 : Int32))], [], (I, L)) (some (.int (1 : Int32))) (I, L) := by
  refine xe_go 2 (s' := (35, [(0, .int (114 : Int32))], [.int (1 : Int32)], (I, L))) rfl ?_
  exact xe_end rfl rfl rfl
set_option maxRecDepth 100000 in
theorem pt_X13_kindOf_3 {I : Nat → Nat → Int32} {L : Nat → Nat → Int64}  : ∃ n, xr_X13_kindOf n (0, [(0, .int (113 : Int32))], [], (I, L)) (some (.int (Int32.ofInt (-1)))) (I, L) := by
  refine xe_go 2 (s' := (39, [(0, .int (113 : Int32))], [.int (Int32.ofInt (-1))], (I, L))) rfl ?_
  exact xe_end rfl rfl rfl
set_option maxRecDepth 100000 in
theorem pt_X13_kindOf_4 {I : Nat → Nat → Int32} {L : Nat → Nat → Int64}  : ∃ n, xr_X13_kindOf n (0, [(0, .int (112 : Int32))], [], (I, L)) (some (.int (2 : Int32))) (I, L) := by
  refine xe_go 2 (s' := (37, [(0, .int (112 : Int32))], [.int (2 : Int32)], (I, L))) rfl ?_
  exact xe_end rfl rfl rfl
def xi_X13_readRungs : List (Nat × Nat × Instr) := [(0, 1, .aload_n 0), (1, 3, .getfield 140), (4, 1, .iconst 1), (5, 3, .if_icmp .eq 9), (8, 1, .aload_n 0), (9, 1, .iconst 1), (10, 3, .invokevirtual 168), (13, 1, .ireturn), (14, 1, .iconst 0), (15, 1, .istore_n 1), (16, 1, .iconst 0), (17, 1, .istore_n 2), (18, 1, .iload_n 2), (19, 1, .aload_n 0), (20, 3, .getfield 137), (23, 3, .if_icmp .ge 41), (26, 1, .aload_n 0), (27, 1, .aload_n 0), (28, 3, .getfield 134), (31, 1, .iload_n 2), (32, 1, .iadd), (33, 3, .invokevirtual 213), (36, 3, .invokestatic 217), (39, 1, .istore_n 3), (40, 1, .iload_n 3), (41, 3, .ifCond .ge 9), (44, 1, .aload_n 0), (45, 1, .iconst 3), (46, 3, .invokevirtual 168), (49, 1, .ireturn), (50, 1, .iload_n 1), (51, 1, .iload_n 3), (52, 1, .iconst 2), (53, 1, .iload_n 2), (54, 1, .imul), (55, 1, .ishl), (56, 1, .ior), (57, 1, .istore_n 1), (58, 3, .iinc 2 1), (61, 3, .goto (-43)), (64, 1, .aload_n 0), (65, 3, .getfield 37), (68, 2, .bipush 19), (70, 1, .aload_n 0), (71, 3, .getfield 37), (74, 1, .iconst 1), (75, 1, .iaload), (76, 1, .iadd), (77, 1, .aload_n 0), (78, 3, .getfield 137), (81, 1, .iastore), (82, 1, .aload_n 0), (83, 3, .getfield 37), (86, 2, .bipush 35), (88, 1, .aload_n 0), (89, 3, .getfield 37), (92, 1, .iconst 1), (93, 1, .iaload), (94, 1, .iadd), (95, 1, .iload_n 1), (96, 1, .iastore), (97, 1, .aload_n 0), (98, 3, .invokevirtual 171), (101, 1, .aload_n 0), (102, 3, .getfield 37), (105, 1, .iconst 1), (106, 1, .dup2), (107, 1, .iaload), (108, 1, .iconst 1), (109, 1, .iadd), (110, 1, .iastore), (111, 1, .iconst 1), (112, 1, .ireturn)]
def xg_X13_readRungs : zf_ft := [(140, 11, 11, .inl (0, 0)), (137, 11, 13, .inl (0, 0)), (134, 11, 12, .inl (0, 0)), (37, 11, 7, .inl (0, 0))]
def xp_X13_readRungs : zf_ft := []
def xv_X13_readRungs : List (Nat × Nat × xe_F) := [(168, 2, fx_X13_bad), (213, 2, fx_X13_octet), (171, 1, fx_X13_next)]
def xt_X13_readRungs : List (Nat × Nat × xe_F) := [(217, 1, fx_X13_kindOf)]
abbrev xr_X13_readRungs := xe_run xGT xSC xRF 4 xg_X13_readRungs xp_X13_readRungs [] [] xv_X13_readRungs xt_X13_readRungs xi_X13_readRungs
def fx_X13_readRungs : xe_F := fun us hp v hp' => (us.map fun v => v.category).sum ≤ 4 ∧ xe_rt (some .boolean) v ∧ (∃ ar, us = ar ++ [.ref 18]) ∧ ∃ n, xr_X13_readRungs n (0, xe_ag 0 us.reverse, [], hp) v hp'
theorem mk_X13_readRungs  {hp hp' : xe_H} {v : Option Value} (hr : xe_rt (some .boolean) v) (h : ∃ n, xr_X13_readRungs n (0, [(0, .ref 18)], [], hp) v hp') : fx_X13_readRungs [.ref 18] hp v hp' := ⟨Nat.le_of_ble_eq_true rfl, hr, ⟨[], rfl⟩, h⟩
theorem hx_X13_readRungs : ∀ us hp v hp', fx_X13_readRungs us hp v hp' → (us.map fun v => v.category).sum ≤ 4 ∧ xe_rt (some .boolean) v ∧ ∃ n, xr_X13_readRungs n (0, xe_ag 0 us.reverse, [], hp) v hp' := fun us hp v hp' h => ⟨h.1, h.2.1, h.2.2.2⟩
theorem fr_X13_readRungs : ∀ us hp v hp', fx_X13_readRungs us hp v hp' → ∃ ar, us = ar ++ [.ref 18] := fun us hp v hp' h => h.2.2.1
set_option maxRecDepth 100000 in
set_option maxHeartbeats 4000000 in
theorem kx_X13_readRungs (l : Launch) (D : va_G) (k : Nat → ClassId) (B0 : Nat) (ad : Nat → Nat) (al sw : Nat) : xe_Con l yX13_readRungs (zw yX13_readRungs cX13_readRungs 4 (some .boolean)) ({ frames := 2, cells := 0, slots := 0, locals := 43 }) D k ad (zEx B0 ad al sw) xGT xSC xRF fx_X13_readRungs := by
  have hEx := zEx_ok B0 ad al sw
  refine xe_mk (cc := cX13_readRungs) (nL := 4) (ret := (some .boolean)) (fg := xg_X13_readRungs) (fp := xp_X13_readRungs) (sg := []) (lc := []) (cv := xv_X13_readRungs) (cs := xt_X13_readRungs) (ins := xi_X13_readRungs) (by decide) rfl hEx (by decide +kernel) hx_X13_readRungs ?_
  intro p e s m args below meth c Q Sg w0 A θ S hK hE hAB hA hth
  refine ⟨?_, ?_, ?_, ?_, ?_, ?_⟩
  · exact zf_ac ((fun H locs ws a q0 fs v rest pc ls hP he hv hdg kk => va_get (D := D) (ci := 11) (C := RX13) (T := TX13) (N := 47) (own := RX13) S.1 S.2.1 S.2.2.2.2 (zg_in inW_X13) S.2.2.2.1 hK hP q0 he rfl 11 (by decide) (S.2.2.2.2 (.fieldLink RX13 140 "RungMoneyModel" "token" "I") (List.mem_cons_of_mem _ zw_1359)) (fun _ h9 => h9) hv hdg kk)) (zf_ac ((fun H locs ws a q0 fs v rest pc ls hP he hv hdg kk => va_get (D := D) (ci := 11) (C := RX13) (T := TX13) (N := 47) (own := RX13) S.1 S.2.1 S.2.2.2.2 (zg_in inW_X13) S.2.2.2.1 hK hP q0 he rfl 13 (by decide) (S.2.2.2.2 (.fieldLink RX13 137 "RungMoneyModel" "span" "I") (List.mem_cons_of_mem _ zw_1361)) (fun _ h9 => h9) hv hdg kk)) (zf_ac ((fun H locs ws a q0 fs v rest pc ls hP he hv hdg kk => va_get (D := D) (ci := 11) (C := RX13) (T := TX13) (N := 47) (own := RX13) S.1 S.2.1 S.2.2.2.2 (zg_in inW_X13) S.2.2.2.1 hK hP q0 he rfl 12 (by decide) (S.2.2.2.2 (.fieldLink RX13 134 "RungMoneyModel" "at" "I") (List.mem_cons_of_mem _ zw_1360)) (fun _ h9 => h9) hv hdg kk)) (zf_ac ((fun H locs ws a q0 fs v rest pc ls hP he hv hdg kk => va_get (D := D) (ci := 11) (C := RX13) (T := TX13) (N := 47) (own := RX13) S.1 S.2.1 S.2.2.2.2 (zg_in inW_X13) S.2.2.2.1 hK hP q0 he rfl 7 (by decide) (S.2.2.2.2 (.fieldLink RX13 37 "RungMoneyModel" "h" "[I") (List.mem_cons_of_mem _ zw_1355)) (fun _ h9 => h9) hv hdg kk)) zf_an)))
  · exact zf_an
  · exact xe_n2
  · exact xe_n3
  · exact xe_a4 (xe_crV S hEx hE hAB hA hK hth (kx_X13_bad l D k B0 ad al sw) (cwV 1 S.2.2.2.2 (zg_V zw_1522 zw_1524 zw_31 zw_109 zw_1525) rfl rfl rfl (by decide +kernel) ⟨(Nat.le_of_ble_eq_true rfl), (Nat.le_of_ble_eq_true rfl)⟩) ⟨(Nat.le_of_ble_eq_true rfl), (Nat.le_of_ble_eq_true rfl)⟩ 11 rfl rfl 18 (by decide +kernel) fr_X13_bad) (xe_a4 (xe_crV S hEx hE hAB hA hK hth (kx_X13_octet l D k B0 ad al sw) (cwV 1 S.2.2.2.2 (zg_V zw_1546 zw_1548 zw_37 zw_109 zw_1549) rfl rfl rfl (by decide +kernel) ⟨(Nat.le_of_ble_eq_true rfl), (Nat.le_of_ble_eq_true rfl)⟩) ⟨(Nat.le_of_ble_eq_true rfl), (Nat.le_of_ble_eq_true rfl)⟩ 11 rfl rfl 18 (by decide +kernel) fr_X13_octet) (xe_a4 (xe_crV S hEx hE hAB hA hK hth (kx_X13_next l D k B0 ad al sw) (cwV 0 S.2.2.2.2 (zg_V zw_1499 zw_1501 zw_27 zw_109 zw_1502) rfl rfl rfl (by decide +kernel) ⟨(Nat.le_of_ble_eq_true rfl), (Nat.le_of_ble_eq_true rfl)⟩) ⟨(Nat.le_of_ble_eq_true rfl), (Nat.le_of_ble_eq_true rfl)⟩ 11 rfl rfl 18 (by decide +kernel) fr_X13_next) xe_n4))
  · exact xe_a4 (xe_crS S hEx hE hAB hA hK hth (kx_X13_kindOf l D k B0 ad al sw) (va_cwS 1 S.2.2.2.2 (zg_S zw_1550 zw_1551 zw_109 zw_1552) rfl rfl rfl (by decide +kernel) ⟨(Nat.le_of_ble_eq_true rfl), (Nat.le_of_ble_eq_true rfl)⟩) ⟨(Nat.le_of_ble_eq_true rfl), (Nat.le_of_ble_eq_true rfl)⟩) xe_n4
set_option maxRecDepth 100000 in
theorem pt_X13_readRungs_0 {I : Nat → Nat → Int32} {L : Nat → Nat → Int64} (h1 : (xe_cmp .eq (I 18 11) (1 : Int32)) = true) {v9 : Option Value} {hp9 : xe_H} (r9 : ∃ n, xr_X13_readRungs n (18, [(0, .ref 18), (1, .int (0 : Int32)), (2, .int (0 : Int32))], [], (I, L)) v9 hp9) : ∃ n, xr_X13_readRungs n (0, [(0, .ref 18)], [], (I, L)) v9 hp9 := by
  refine xe_bT 3 (A := (14, [(0, .ref 18)], [], (I, L))) (B := (8, [(0, .ref 18)], [], (I, L))) h1 rfl ?_
  refine xe_go 3 (s' := (18, [(0, .ref 18), (1, .int (0 : Int32)), (2, .int (0 : Int32))], [], (I, L))) rfl ?_
  exact xe_nrm [0, 1, 2] rfl r9
set_option maxRecDepth 100000 in
theorem pt_X13_readRungs_1 {I I1 : Nat → Nat → Int32} {L L1 : Nat → Nat → Int64} (h1 : (xe_cmp .eq (I 18 11) (1 : Int32)) = false) (c1 : fx_X13_bad [.int (1 : Int32), .ref 18] (I, L) (some (.int 0)) (I1, L1)) : ∃ n, xr_X13_readRungs n (0, [(0, .ref 18)], [], (I, L)) (some (.int 0)) (I1, L1) := by
  refine xe_bF 3 (A := (14, [(0, .ref 18)], [], (I, L))) (B := (8, [(0, .ref 18)], [], (I, L))) h1 rfl ?_
  refine xe_go 1 (s' := (10, [(0, .ref 18)], [.int (1 : Int32), .ref 18], (I, L))) rfl ?_
  refine xe_vir (n := 2) (f := fx_X13_bad) rfl (Nat.le_of_ble_eq_true rfl) (List.mem_of_getElem? (i := 0) rfl) (Nat.le_of_ble_eq_true rfl) c1 ?_
  exact xe_end rfl rfl rfl
set_option maxRecDepth 100000 in
theorem pt_X13_readRungs_2 {l1 l2 : Int32} {I I1 : Nat → Nat → Int32} {L L1 : Nat → Nat → Int64} (h1 : (xe_cmp .ge l2 (I 18 13)) = true) (h2 : xe_ib ((19 : Int32) + (I 21 1)) 87 = true) (h3 : xe_ib ((35 : Int32) + ((xu I 21 ((((19 : Int32) + (I 21 1))).toInt.toNat) (I 18 13)) 21 1)) 87 = true) (c1 : fx_X13_next [.ref 18] ((xu (xu I 21 ((((19 : Int32) + (I 21 1))).toInt.toNat) (I 18 13)) 21 ((((35 : Int32) + ((xu I 21 ((((19 : Int32) + (I 21 1))).toInt.toNat) (I 18 13)) 21 1))).toInt.toNat) l1), L) none (I1, L1)) : ∃ n, xr_X13_readRungs n (18, [(0, .ref 18), (1, .int l1), (2, .int l2)], [], (I, L)) (some (.int (1 : Int32))) ((xu I1 21 1 ((I1 21 1) + (1 : Int32))), L1) := by
  refine xe_bT 3 (A := (64, [(0, .ref 18), (1, .int l1), (2, .int l2)], [], (I, L))) (B := (26, [(0, .ref 18), (1, .int l1), (2, .int l2)], [], (I, L))) h1 rfl ?_
  refine xe_ar 10 (A := (82, [(0, .ref 18), (1, .int l1), (2, .int l2)], [], ((xu I 21 ((((19 : Int32) + (I 21 1))).toInt.toNat) (I 18 13)), L))) h2 rfl ?_
  refine xe_ar 9 (A := (97, [(0, .ref 18), (1, .int l1), (2, .int l2)], [], ((xu (xu I 21 ((((19 : Int32) + (I 21 1))).toInt.toNat) (I 18 13)) 21 ((((35 : Int32) + ((xu I 21 ((((19 : Int32) + (I 21 1))).toInt.toNat) (I 18 13)) 21 1))).toInt.toNat) l1), L))) h3 rfl ?_
  refine xe_go 0 (s' := (98, [(0, .ref 18), (1, .int l1), (2, .int l2)], [.ref 18], ((xu (xu I 21 ((((19 : Int32) + (I 21 1))).toInt.toNat) (I 18 13)) 21 ((((35 : Int32) + ((xu I 21 ((((19 : Int32) + (I 21 1))).toInt.toNat) (I 18 13)) 21 1))).toInt.toNat) l1), L))) rfl ?_
  refine xe_vir (n := 1) (f := fx_X13_next) rfl (Nat.le_of_ble_eq_true rfl) (List.mem_of_getElem? (i := 2) rfl) (Nat.le_of_ble_eq_true rfl) c1 ?_
  refine xe_go 8 (s' := (112, [(0, .ref 18), (1, .int l1), (2, .int l2)], [.int (1 : Int32)], ((xu I1 21 1 ((I1 21 1) + (1 : Int32))), L1))) rfl ?_
  exact xe_end rfl rfl rfl
set_option maxRecDepth 100000 in
theorem pt_X13_readRungs_3 {l1 l2 r1 r2 : Int32} {I I1 I2 : Nat → Nat → Int32} {L L1 L2 : Nat → Nat → Int64} (h1 : (xe_cmp .ge l2 (I 18 13)) = false) (c1 : fx_X13_octet [.int ((I 18 12) + l2), .ref 18] (I, L) (some (.int r1)) (I1, L1)) (c2 : fx_X13_kindOf [.int r1] (I1, L1) (some (.int r2)) (I2, L2)) (h2 : (xe_cmp .ge r2 0) = true) {v9 : Option Value} {hp9 : xe_H} (r9 : ∃ n, xr_X13_readRungs n (18, [(0, .ref 18), (1, .int (l1 ||| (r2 <<< (((2 : Int32) * l2) &&& 31)))), (2, .int (l2 + (1 : Int32)))], [], (I2, L2)) v9 hp9) : ∃ n, xr_X13_readRungs n (18, [(0, .ref 18), (1, .int l1), (2, .int l2)], [], (I, L)) v9 hp9 := by
  refine xe_bF 3 (A := (64, [(0, .ref 18), (1, .int l1), (2, .int l2)], [], (I, L))) (B := (26, [(0, .ref 18), (1, .int l1), (2, .int l2)], [], (I, L))) h1 rfl ?_
  refine xe_go 4 (s' := (33, [(0, .ref 18), (1, .int l1), (2, .int l2)], [.int ((I 18 12) + l2), .ref 18], (I, L))) rfl ?_
  refine xe_vir (n := 2) (f := fx_X13_octet) rfl (Nat.le_of_ble_eq_true rfl) (List.mem_of_getElem? (i := 1) rfl) (Nat.le_of_ble_eq_true rfl) c1 ?_
  refine xe_sta (n := 1) (f := fx_X13_kindOf) rfl (Nat.le_of_ble_eq_true rfl) (List.mem_of_getElem? (i := 0) rfl) (Nat.le_of_ble_eq_true rfl) c2 ?_
  refine xe_bT 2 (A := (50, [(0, .ref 18), (1, .int l1), (2, .int l2), (3, .int r2)], [], (I2, L2))) (B := (44, [(0, .ref 18), (1, .int l1), (2, .int l2), (3, .int r2)], [], (I2, L2))) h2 rfl ?_
  refine xe_go 9 (s' := (18, [(0, .ref 18), (1, .int (l1 ||| (r2 <<< (((2 : Int32) * l2) &&& 31)))), (2, .int (l2 + (1 : Int32))), (3, .int r2)], [], (I2, L2))) rfl ?_
  exact xe_nrm [0, 1, 2] rfl r9
set_option maxRecDepth 100000 in
theorem pt_X13_readRungs_4 {l1 l2 r1 r2 : Int32} {I I1 I2 I3 : Nat → Nat → Int32} {L L1 L2 L3 : Nat → Nat → Int64} (h1 : (xe_cmp .ge l2 (I 18 13)) = false) (c1 : fx_X13_octet [.int ((I 18 12) + l2), .ref 18] (I, L) (some (.int r1)) (I1, L1)) (c2 : fx_X13_kindOf [.int r1] (I1, L1) (some (.int r2)) (I2, L2)) (h2 : (xe_cmp .ge r2 0) = false) (c3 : fx_X13_bad [.int (3 : Int32), .ref 18] (I2, L2) (some (.int 0)) (I3, L3)) : ∃ n, xr_X13_readRungs n (18, [(0, .ref 18), (1, .int l1), (2, .int l2)], [], (I, L)) (some (.int 0)) (I3, L3) := by
  refine xe_bF 3 (A := (64, [(0, .ref 18), (1, .int l1), (2, .int l2)], [], (I, L))) (B := (26, [(0, .ref 18), (1, .int l1), (2, .int l2)], [], (I, L))) h1 rfl ?_
  refine xe_go 4 (s' := (33, [(0, .ref 18), (1, .int l1), (2, .int l2)], [.int ((I 18 12) + l2), .ref 18], (I, L))) rfl ?_
  refine xe_vir (n := 2) (f := fx_X13_octet) rfl (Nat.le_of_ble_eq_true rfl) (List.mem_of_getElem? (i := 1) rfl) (Nat.le_of_ble_eq_true rfl) c1 ?_
  refine xe_sta (n := 1) (f := fx_X13_kindOf) rfl (Nat.le_of_ble_eq_true rfl) (List.mem_of_getElem? (i := 0) rfl) (Nat.le_of_ble_eq_true rfl) c2 ?_
  refine xe_bF 2 (A := (50, [(0, .ref 18), (1, .int l1), (2, .int l2), (3, .int r2)], [], (I2, L2))) (B := (44, [(0, .ref 18), (1, .int l1), (2, .int l2), (3, .int r2)], [], (I2, L2))) h2 rfl ?_
  refine xe_go 1 (s' := (46, [(0, .ref 18), (1, .int l1), (2, .int l2), (3, .int r2)], [.int (3 : Int32), .ref 18], (I2, L2))) rfl ?_
  refine xe_vir (n := 2) (f := fx_X13_bad) rfl (Nat.le_of_ble_eq_true rfl) (List.mem_of_getElem? (i := 0) rfl) (Nat.le_of_ble_eq_true rfl) c3 ?_
  exact xe_end rfl rfl rfl
def xi_X13_readDebt : List (Nat × Nat × Instr) := [(0, 1, .aload_n 0), (1, 3, .getfield 220), (4, 2, .bipush 20), (6, 3, .if_icmp .ne 9), (9, 1, .aload_n 0), (10, 1, .iconst 4), (11, 3, .invokevirtual 168), (14, 1, .ireturn), (15, 1, .aload_n 0), (16, 3, .invokevirtual 171), (19, 1, .aload_n 0), (20, 2, .bipush 6), (22, 1, .aload_n 0), (23, 3, .getfield 37), (26, 1, .iconst 0), (27, 1, .iaload), (28, 3, .invokevirtual 197), (31, 3, .ifCond .ne 5), (34, 1, .iconst 0), (35, 1, .ireturn), (36, 1, .aload_n 0), (37, 3, .getfield 178), (40, 1, .istore_n 1), (41, 1, .aload_n 0), (42, 2, .bipush 6), (44, 1, .aload_n 0), (45, 3, .getfield 37), (48, 1, .iconst 0), (49, 1, .iaload), (50, 3, .invokevirtual 189), (53, 3, .ifCond .ne 5), (56, 1, .iconst 0), (57, 1, .ireturn), (58, 2, .bipush 51), (60, 2, .bipush 6), (62, 1, .iload_n 1), (63, 1, .imul), (64, 1, .iadd), (65, 1, .aload_n 0), (66, 3, .getfield 178), (69, 1, .iadd), (70, 1, .istore_n 2), (71, 1, .aload_n 0), (72, 3, .getfield 178), (75, 1, .iload_n 1), (76, 3, .if_icmp .eq 12), (79, 1, .aload_n 0), (80, 3, .getfield 37), (83, 1, .iload_n 2), (84, 1, .iaload), (85, 3, .ifCond .le 9), (88, 1, .aload_n 0), (89, 1, .iconst 3), (90, 3, .invokevirtual 168), (93, 1, .ireturn), (94, 1, .aload_n 0), (95, 3, .invokevirtual 171), (98, 1, .aload_n 0), (99, 1, .iconst 1), (100, 3, .sipush 250), (103, 3, .invokevirtual 210), (106, 3, .ifCond .ne 5), (109, 1, .iconst 0), (110, 1, .ireturn), (111, 1, .aload_n 0), (112, 3, .getfield 37), (115, 1, .iload_n 2), (116, 1, .aload_n 0), (117, 3, .getfield 178), (120, 1, .iastore), (121, 1, .aload_n 0), (122, 1, .dup), (123, 3, .getfield 220), (126, 1, .iconst 1), (127, 1, .iadd), (128, 3, .putfield 220), (131, 1, .iconst 1), (132, 1, .ireturn)]
def xg_X13_readDebt : zf_ft := [(220, 11, 20, .inl (0, 0)), (37, 11, 7, .inl (0, 0)), (178, 11, 18, .inl (0, 0))]
def xp_X13_readDebt : zf_ft := [(220, 11, 20, .inl ((-2147483648), 2147483647))]
def xv_X13_readDebt : List (Nat × Nat × xe_F) := [(168, 2, fx_X13_bad), (171, 1, fx_X13_next), (197, 3, fx_X13_takesName), (189, 3, fx_X13_looksAt), (210, 3, fx_X13_takes)]
def xt_X13_readDebt : List (Nat × Nat × xe_F) := []
abbrev xr_X13_readDebt := xe_run xGT xSC xRF 3 xg_X13_readDebt xp_X13_readDebt [] [] xv_X13_readDebt xt_X13_readDebt xi_X13_readDebt
def fx_X13_readDebt : xe_F := fun us hp v hp' => (us.map fun v => v.category).sum ≤ 3 ∧ xe_rt (some .boolean) v ∧ (∃ ar, us = ar ++ [.ref 18]) ∧ ∃ n, xr_X13_readDebt n (0, xe_ag 0 us.reverse, [], hp) v hp'
theorem mk_X13_readDebt  {hp hp' : xe_H} {v : Option Value} (hr : xe_rt (some .boolean) v) (h : ∃ n, xr_X13_readDebt n (0, [(0, .ref 18)], [], hp) v hp') : fx_X13_readDebt [.ref 18] hp v hp' := ⟨Nat.le_of_ble_eq_true rfl, hr, ⟨[], rfl⟩, h⟩
theorem hx_X13_readDebt : ∀ us hp v hp', fx_X13_readDebt us hp v hp' → (us.map fun v => v.category).sum ≤ 3 ∧ xe_rt (some .boolean) v ∧ ∃ n, xr_X13_readDebt n (0, xe_ag 0 us.reverse, [], hp) v hp' := fun us hp v hp' h => ⟨h.1, h.2.1, h.2.2.2⟩
theorem fr_X13_readDebt : ∀ us hp v hp', fx_X13_readDebt us hp v hp' → ∃ ar, us = ar ++ [.ref 18] := fun us hp v hp' h => h.2.2.1
set_option maxRecDepth 100000 in
set_option maxHeartbeats 4000000 in
theorem kx_X13_readDebt (l : Launch) (D : va_G) (k : Nat → ClassId) (B0 : Nat) (ad : Nat → Nat) (al sw : Nat) : xe_Con l yX13_readDebt (zw yX13_readDebt cX13_readDebt 3 (some .boolean)) ({ frames := 3, cells := 0, slots := 0, locals := 67 }) D k ad (zEx B0 ad al sw) xGT xSC xRF fx_X13_readDebt := by
  have hEx := zEx_ok B0 ad al sw
  refine xe_mk (cc := cX13_readDebt) (nL := 3) (ret := (some .boolean)) (fg := xg_X13_readDebt) (fp := xp_X13_readDebt) (sg := []) (lc := []) (cv := xv_X13_readDebt) (cs := xt_X13_readDebt) (ins := xi_X13_readDebt) (by decide) rfl hEx (by decide +kernel) hx_X13_readDebt ?_
  intro p e s m args below meth c Q Sg w0 A θ S hK hE hAB hA hth
  refine ⟨?_, ?_, ?_, ?_, ?_, ?_⟩
  · exact zf_ac ((fun H locs ws a q0 fs v rest pc ls hP he hv hdg kk => va_get (D := D) (ci := 11) (C := RX13) (T := TX13) (N := 47) (own := RX13) S.1 S.2.1 S.2.2.2.2 (zg_in inW_X13) S.2.2.2.1 hK hP q0 he rfl 20 (by decide) (S.2.2.2.2 (.fieldLink RX13 220 "RungMoneyModel" "debts" "I") (List.mem_cons_of_mem _ zw_1368)) (fun _ h9 => h9) hv hdg kk)) (zf_ac ((fun H locs ws a q0 fs v rest pc ls hP he hv hdg kk => va_get (D := D) (ci := 11) (C := RX13) (T := TX13) (N := 47) (own := RX13) S.1 S.2.1 S.2.2.2.2 (zg_in inW_X13) S.2.2.2.1 hK hP q0 he rfl 7 (by decide) (S.2.2.2.2 (.fieldLink RX13 37 "RungMoneyModel" "h" "[I") (List.mem_cons_of_mem _ zw_1355)) (fun _ h9 => h9) hv hdg kk)) (zf_ac ((fun H locs ws a q0 fs v rest pc ls hP he hv hdg kk => va_get (D := D) (ci := 11) (C := RX13) (T := TX13) (N := 47) (own := RX13) S.1 S.2.1 S.2.2.2.2 (zg_in inW_X13) S.2.2.2.1 hK hP q0 he rfl 18 (by decide) (S.2.2.2.2 (.fieldLink RX13 178 "RungMoneyModel" "got" "I") (List.mem_cons_of_mem _ zw_1366)) (fun _ h9 => h9) hv hdg kk)) zf_an))
  · exact zf_ac ((fun H locs ws a q0 fs v rest pc ls hP hD hS he hl hv hdg kk => by obtain ⟨x, rfl, h1, h2⟩ := hv; exact va_put (D := D) (ci := 11) (v := .int x) (ty := .int) (C := RX13) (T := TX13) (N := 47) (own := RX13) S.1 S.2.1 S.2.2.2.2 (zg_in inW_X13) tyX13 tyX13_ok nmX13 S.2.2.2.1 hK hP hD hS q0 he rfl 20 (by decide) (S.2.2.2.2 (.fieldLink RX13 220 "RungMoneyModel" "debts" "I") (List.mem_cons_of_mem _ zw_1368)) (fun _ h9 => h9) rfl (by decide +kernel) rfl rfl hl hdg kk)) zf_an
  · exact xe_n2
  · exact xe_n3
  · exact xe_a4 (xe_crV S hEx hE hAB hA hK hth (kx_X13_bad l D k B0 ad al sw) (cwV 1 S.2.2.2.2 (zg_V zw_1522 zw_1524 zw_31 zw_109 zw_1525) rfl rfl rfl (by decide +kernel) ⟨(Nat.le_of_ble_eq_true rfl), (Nat.le_of_ble_eq_true rfl)⟩) ⟨(Nat.le_of_ble_eq_true rfl), (Nat.le_of_ble_eq_true rfl)⟩ 11 rfl rfl 18 (by decide +kernel) fr_X13_bad) (xe_a4 (xe_crV S hEx hE hAB hA hK hth (kx_X13_next l D k B0 ad al sw) (cwV 0 S.2.2.2.2 (zg_V zw_1499 zw_1501 zw_27 zw_109 zw_1502) rfl rfl rfl (by decide +kernel) ⟨(Nat.le_of_ble_eq_true rfl), (Nat.le_of_ble_eq_true rfl)⟩) ⟨(Nat.le_of_ble_eq_true rfl), (Nat.le_of_ble_eq_true rfl)⟩ 11 rfl rfl 18 (by decide +kernel) fr_X13_next) (xe_a4 (xe_crV S hEx hE hAB hA hK hth (kx_X13_takesName l D k B0 ad al sw) (cwV 2 S.2.2.2.2 (zg_V zw_1534 zw_1536 zw_34 zw_109 zw_1537) rfl rfl rfl (by decide +kernel) ⟨(Nat.le_of_ble_eq_true rfl), (Nat.le_of_ble_eq_true rfl)⟩) ⟨(Nat.le_of_ble_eq_true rfl), (Nat.le_of_ble_eq_true rfl)⟩ 11 rfl rfl 18 (by decide +kernel) fr_X13_takesName) (xe_a4 (xe_crV S hEx hE hAB hA hK hth (kx_X13_looksAt l D k B0 ad al sw) (cwV 2 S.2.2.2.2 (zg_V zw_1538 zw_1540 zw_35 zw_109 zw_1541) rfl rfl rfl (by decide +kernel) ⟨(Nat.le_of_ble_eq_true rfl), (Nat.le_of_ble_eq_true rfl)⟩) ⟨(Nat.le_of_ble_eq_true rfl), (Nat.le_of_ble_eq_true rfl)⟩ 11 rfl rfl 18 (by decide +kernel) fr_X13_looksAt) (xe_a4 (xe_crV S hEx hE hAB hA hK hth (kx_X13_takes l D k B0 ad al sw) (cwV 2 S.2.2.2.2 (zg_V zw_1557 zw_1559 zw_39 zw_109 zw_1560) rfl rfl rfl (by decide +kernel) ⟨(Nat.le_of_ble_eq_true rfl), (Nat.le_of_ble_eq_true rfl)⟩) ⟨(Nat.le_of_ble_eq_true rfl), (Nat.le_of_ble_eq_true rfl)⟩ 11 rfl rfl 18 (by decide +kernel) fr_X13_takes) xe_n4))))
  · exact xe_n4
set_option maxRecDepth 100000 in
theorem pt_X13_readDebt_0 {I I1 I2 I3 I4 : Nat → Nat → Int32} {L L1 L2 L3 L4 : Nat → Nat → Int64} (h1 : (xe_cmp .ne (I 18 20) (20 : Int32)) = true) (c1 : fx_X13_next [.ref 18] (I, L) none (I1, L1)) (c2 : fx_X13_takesName [.int (I1 21 0), .int (6 : Int32), .ref 18] (I1, L1) (some (.int 1)) (I2, L2)) (c3 : fx_X13_looksAt [.int (I2 21 0), .int (6 : Int32), .ref 18] (I2, L2) (some (.int 1)) (I3, L3)) (h2 : (xe_cmp .eq (I3 18 18) (I2 18 18)) = true) (c4 : fx_X13_bad [.int (3 : Int32), .ref 18] (I3, L3) (some (.int 0)) (I4, L4)) : ∃ n, xr_X13_readDebt n (0, [(0, .ref 18)], [], (I, L)) (some (.int 0)) (I4, L4) := by
  refine xe_bT 3 (A := (15, [(0, .ref 18)], [], (I, L))) (B := (9, [(0, .ref 18)], [], (I, L))) h1 rfl ?_
  refine xe_go 0 (s' := (16, [(0, .ref 18)], [.ref 18], (I, L))) rfl ?_
  refine xe_vir (n := 1) (f := fx_X13_next) rfl (Nat.le_of_ble_eq_true rfl) (List.mem_of_getElem? (i := 1) rfl) (Nat.le_of_ble_eq_true rfl) c1 ?_
  refine xe_go 5 (s' := (28, [(0, .ref 18)], [.int (I1 21 0), .int (6 : Int32), .ref 18], (I1, L1))) rfl ?_
  refine xe_vir (n := 3) (f := fx_X13_takesName) rfl (Nat.le_of_ble_eq_true rfl) (List.mem_of_getElem? (i := 2) rfl) (Nat.le_of_ble_eq_true rfl) c2 ?_
  refine xe_go 9 (s' := (50, [(0, .ref 18), (1, .int (I2 18 18))], [.int (I2 21 0), .int (6 : Int32), .ref 18], (I2, L2))) rfl ?_
  refine xe_vir (n := 3) (f := fx_X13_looksAt) rfl (Nat.le_of_ble_eq_true rfl) (List.mem_of_getElem? (i := 3) rfl) (Nat.le_of_ble_eq_true rfl) c3 ?_
  refine xe_bT 13 (A := (88, [(0, .ref 18), (1, .int (I2 18 18)), (2, .int (((51 : Int32) + ((6 : Int32) * (I2 18 18))) + (I3 18 18)))], [], (I3, L3))) (B := (79, [(0, .ref 18), (1, .int (I2 18 18)), (2, .int (((51 : Int32) + ((6 : Int32) * (I2 18 18))) + (I3 18 18)))], [], (I3, L3))) h2 rfl ?_
  refine xe_go 1 (s' := (90, [(0, .ref 18), (1, .int (I2 18 18)), (2, .int (((51 : Int32) + ((6 : Int32) * (I2 18 18))) + (I3 18 18)))], [.int (3 : Int32), .ref 18], (I3, L3))) rfl ?_
  refine xe_vir (n := 2) (f := fx_X13_bad) rfl (Nat.le_of_ble_eq_true rfl) (List.mem_of_getElem? (i := 0) rfl) (Nat.le_of_ble_eq_true rfl) c4 ?_
  exact xe_end rfl rfl rfl
set_option maxRecDepth 100000 in
theorem pt_X13_readDebt_1 {I I1 I2 I3 I4 I5 : Nat → Nat → Int32} {L L1 L2 L3 L4 L5 : Nat → Nat → Int64} (h1 : (xe_cmp .ne (I 18 20) (20 : Int32)) = true) (c1 : fx_X13_next [.ref 18] (I, L) none (I1, L1)) (c2 : fx_X13_takesName [.int (I1 21 0), .int (6 : Int32), .ref 18] (I1, L1) (some (.int 1)) (I2, L2)) (c3 : fx_X13_looksAt [.int (I2 21 0), .int (6 : Int32), .ref 18] (I2, L2) (some (.int 1)) (I3, L3)) (h2 : (xe_cmp .eq (I3 18 18) (I2 18 18)) = false) (h3 : xe_ib (((51 : Int32) + ((6 : Int32) * (I2 18 18))) + (I3 18 18)) 87 = true) (h4 : (xe_cmp .le (I3 21 (((((51 : Int32) + ((6 : Int32) * (I2 18 18))) + (I3 18 18))).toInt.toNat)) 0) = true) (c4 : fx_X13_next [.ref 18] (I3, L3) none (I4, L4)) (c5 : fx_X13_takes [.int (250 : Int32), .int (1 : Int32), .ref 18] (I4, L4) (some (.int 1)) (I5, L5)) (h5 : xe_ib (((51 : Int32) + ((6 : Int32) * (I2 18 18))) + (I3 18 18)) 87 = true) : ∃ n, xr_X13_readDebt n (0, [(0, .ref 18)], [], (I, L)) (some (.int (1 : Int32))) ((xu (xu I5 21 (((((51 : Int32) + ((6 : Int32) * (I2 18 18))) + (I3 18 18))).toInt.toNat) (I5 18 18)) 18 20 ((I5 18 20) + (1 : Int32))), L5) := by
  refine xe_bT 3 (A := (15, [(0, .ref 18)], [], (I, L))) (B := (9, [(0, .ref 18)], [], (I, L))) h1 rfl ?_
  refine xe_go 0 (s' := (16, [(0, .ref 18)], [.ref 18], (I, L))) rfl ?_
  refine xe_vir (n := 1) (f := fx_X13_next) rfl (Nat.le_of_ble_eq_true rfl) (List.mem_of_getElem? (i := 1) rfl) (Nat.le_of_ble_eq_true rfl) c1 ?_
  refine xe_go 5 (s' := (28, [(0, .ref 18)], [.int (I1 21 0), .int (6 : Int32), .ref 18], (I1, L1))) rfl ?_
  refine xe_vir (n := 3) (f := fx_X13_takesName) rfl (Nat.le_of_ble_eq_true rfl) (List.mem_of_getElem? (i := 2) rfl) (Nat.le_of_ble_eq_true rfl) c2 ?_
  refine xe_go 9 (s' := (50, [(0, .ref 18), (1, .int (I2 18 18))], [.int (I2 21 0), .int (6 : Int32), .ref 18], (I2, L2))) rfl ?_
  refine xe_vir (n := 3) (f := fx_X13_looksAt) rfl (Nat.le_of_ble_eq_true rfl) (List.mem_of_getElem? (i := 3) rfl) (Nat.le_of_ble_eq_true rfl) c3 ?_
  refine xe_bF 13 (A := (88, [(0, .ref 18), (1, .int (I2 18 18)), (2, .int (((51 : Int32) + ((6 : Int32) * (I2 18 18))) + (I3 18 18)))], [], (I3, L3))) (B := (79, [(0, .ref 18), (1, .int (I2 18 18)), (2, .int (((51 : Int32) + ((6 : Int32) * (I2 18 18))) + (I3 18 18)))], [], (I3, L3))) h2 rfl ?_
  refine xe_ar 3 (A := (85, [(0, .ref 18), (1, .int (I2 18 18)), (2, .int (((51 : Int32) + ((6 : Int32) * (I2 18 18))) + (I3 18 18)))], [.int (I3 21 (((((51 : Int32) + ((6 : Int32) * (I2 18 18))) + (I3 18 18))).toInt.toNat))], (I3, L3))) h3 rfl ?_
  refine xe_bT 0 (A := (94, [(0, .ref 18), (1, .int (I2 18 18)), (2, .int (((51 : Int32) + ((6 : Int32) * (I2 18 18))) + (I3 18 18)))], [], (I3, L3))) (B := (88, [(0, .ref 18), (1, .int (I2 18 18)), (2, .int (((51 : Int32) + ((6 : Int32) * (I2 18 18))) + (I3 18 18)))], [], (I3, L3))) h4 rfl ?_
  refine xe_go 0 (s' := (95, [(0, .ref 18), (1, .int (I2 18 18)), (2, .int (((51 : Int32) + ((6 : Int32) * (I2 18 18))) + (I3 18 18)))], [.ref 18], (I3, L3))) rfl ?_
  refine xe_vir (n := 1) (f := fx_X13_next) rfl (Nat.le_of_ble_eq_true rfl) (List.mem_of_getElem? (i := 1) rfl) (Nat.le_of_ble_eq_true rfl) c4 ?_
  refine xe_go 2 (s' := (103, [(0, .ref 18), (1, .int (I2 18 18)), (2, .int (((51 : Int32) + ((6 : Int32) * (I2 18 18))) + (I3 18 18)))], [.int (250 : Int32), .int (1 : Int32), .ref 18], (I4, L4))) rfl ?_
  refine xe_vir (n := 3) (f := fx_X13_takes) rfl (Nat.le_of_ble_eq_true rfl) (List.mem_of_getElem? (i := 4) rfl) (Nat.le_of_ble_eq_true rfl) c5 ?_
  refine xe_ar 6 (A := (121, [(0, .ref 18), (1, .int (I2 18 18)), (2, .int (((51 : Int32) + ((6 : Int32) * (I2 18 18))) + (I3 18 18)))], [], ((xu I5 21 (((((51 : Int32) + ((6 : Int32) * (I2 18 18))) + (I3 18 18))).toInt.toNat) (I5 18 18)), L5))) h5 rfl ?_
  refine xe_go 6 (s' := (132, [(0, .ref 18), (1, .int (I2 18 18)), (2, .int (((51 : Int32) + ((6 : Int32) * (I2 18 18))) + (I3 18 18)))], [.int (1 : Int32)], ((xu (xu I5 21 (((((51 : Int32) + ((6 : Int32) * (I2 18 18))) + (I3 18 18))).toInt.toNat) (I5 18 18)) 18 20 ((I5 18 20) + (1 : Int32))), L5))) rfl ?_
  exact xe_end rfl rfl rfl
set_option maxRecDepth 100000 in
theorem pt_X13_readDebt_2 {I I1 I2 I3 I4 I5 : Nat → Nat → Int32} {L L1 L2 L3 L4 L5 : Nat → Nat → Int64} (h1 : (xe_cmp .ne (I 18 20) (20 : Int32)) = true) (c1 : fx_X13_next [.ref 18] (I, L) none (I1, L1)) (c2 : fx_X13_takesName [.int (I1 21 0), .int (6 : Int32), .ref 18] (I1, L1) (some (.int 1)) (I2, L2)) (c3 : fx_X13_looksAt [.int (I2 21 0), .int (6 : Int32), .ref 18] (I2, L2) (some (.int 1)) (I3, L3)) (h2 : (xe_cmp .eq (I3 18 18) (I2 18 18)) = false) (h3 : xe_ib (((51 : Int32) + ((6 : Int32) * (I2 18 18))) + (I3 18 18)) 87 = true) (h4 : (xe_cmp .le (I3 21 (((((51 : Int32) + ((6 : Int32) * (I2 18 18))) + (I3 18 18))).toInt.toNat)) 0) = true) (c4 : fx_X13_next [.ref 18] (I3, L3) none (I4, L4)) (c5 : fx_X13_takes [.int (250 : Int32), .int (1 : Int32), .ref 18] (I4, L4) (some (.int 0)) (I5, L5)) : ∃ n, xr_X13_readDebt n (0, [(0, .ref 18)], [], (I, L)) (some (.int (0 : Int32))) (I5, L5) := by
  refine xe_bT 3 (A := (15, [(0, .ref 18)], [], (I, L))) (B := (9, [(0, .ref 18)], [], (I, L))) h1 rfl ?_
  refine xe_go 0 (s' := (16, [(0, .ref 18)], [.ref 18], (I, L))) rfl ?_
  refine xe_vir (n := 1) (f := fx_X13_next) rfl (Nat.le_of_ble_eq_true rfl) (List.mem_of_getElem? (i := 1) rfl) (Nat.le_of_ble_eq_true rfl) c1 ?_
  refine xe_go 5 (s' := (28, [(0, .ref 18)], [.int (I1 21 0), .int (6 : Int32), .ref 18], (I1, L1))) rfl ?_
  refine xe_vir (n := 3) (f := fx_X13_takesName) rfl (Nat.le_of_ble_eq_true rfl) (List.mem_of_getElem? (i := 2) rfl) (Nat.le_of_ble_eq_true rfl) c2 ?_
  refine xe_go 9 (s' := (50, [(0, .ref 18), (1, .int (I2 18 18))], [.int (I2 21 0), .int (6 : Int32), .ref 18], (I2, L2))) rfl ?_
  refine xe_vir (n := 3) (f := fx_X13_looksAt) rfl (Nat.le_of_ble_eq_true rfl) (List.mem_of_getElem? (i := 3) rfl) (Nat.le_of_ble_eq_true rfl) c3 ?_
  refine xe_bF 13 (A := (88, [(0, .ref 18), (1, .int (I2 18 18)), (2, .int (((51 : Int32) + ((6 : Int32) * (I2 18 18))) + (I3 18 18)))], [], (I3, L3))) (B := (79, [(0, .ref 18), (1, .int (I2 18 18)), (2, .int (((51 : Int32) + ((6 : Int32) * (I2 18 18))) + (I3 18 18)))], [], (I3, L3))) h2 rfl ?_
  refine xe_ar 3 (A := (85, [(0, .ref 18), (1, .int (I2 18 18)), (2, .int (((51 : Int32) + ((6 : Int32) * (I2 18 18))) + (I3 18 18)))], [.int (I3 21 (((((51 : Int32) + ((6 : Int32) * (I2 18 18))) + (I3 18 18))).toInt.toNat))], (I3, L3))) h3 rfl ?_
  refine xe_bT 0 (A := (94, [(0, .ref 18), (1, .int (I2 18 18)), (2, .int (((51 : Int32) + ((6 : Int32) * (I2 18 18))) + (I3 18 18)))], [], (I3, L3))) (B := (88, [(0, .ref 18), (1, .int (I2 18 18)), (2, .int (((51 : Int32) + ((6 : Int32) * (I2 18 18))) + (I3 18 18)))], [], (I3, L3))) h4 rfl ?_
  refine xe_go 0 (s' := (95, [(0, .ref 18), (1, .int (I2 18 18)), (2, .int (((51 : Int32) + ((6 : Int32) * (I2 18 18))) + (I3 18 18)))], [.ref 18], (I3, L3))) rfl ?_
  refine xe_vir (n := 1) (f := fx_X13_next) rfl (Nat.le_of_ble_eq_true rfl) (List.mem_of_getElem? (i := 1) rfl) (Nat.le_of_ble_eq_true rfl) c4 ?_
  refine xe_go 2 (s' := (103, [(0, .ref 18), (1, .int (I2 18 18)), (2, .int (((51 : Int32) + ((6 : Int32) * (I2 18 18))) + (I3 18 18)))], [.int (250 : Int32), .int (1 : Int32), .ref 18], (I4, L4))) rfl ?_
  refine xe_vir (n := 3) (f := fx_X13_takes) rfl (Nat.le_of_ble_eq_true rfl) (List.mem_of_getElem? (i := 4) rfl) (Nat.le_of_ble_eq_true rfl) c5 ?_
  refine xe_go 1 (s' := (110, [(0, .ref 18), (1, .int (I2 18 18)), (2, .int (((51 : Int32) + ((6 : Int32) * (I2 18 18))) + (I3 18 18)))], [.int (0 : Int32)], (I5, L5))) rfl ?_
  exact xe_end rfl rfl rfl
set_option maxRecDepth 100000 in
theorem pt_X13_readDebt_3 {I I1 I2 I3 I4 : Nat → Nat → Int32} {L L1 L2 L3 L4 : Nat → Nat → Int64} (h1 : (xe_cmp .ne (I 18 20) (20 : Int32)) = true) (c1 : fx_X13_next [.ref 18] (I, L) none (I1, L1)) (c2 : fx_X13_takesName [.int (I1 21 0), .int (6 : Int32), .ref 18] (I1, L1) (some (.int 1)) (I2, L2)) (c3 : fx_X13_looksAt [.int (I2 21 0), .int (6 : Int32), .ref 18] (I2, L2) (some (.int 1)) (I3, L3)) (h2 : (xe_cmp .eq (I3 18 18) (I2 18 18)) = false) (h3 : xe_ib (((51 : Int32) + ((6 : Int32) * (I2 18 18))) + (I3 18 18)) 87 = true) (h4 : (xe_cmp .le (I3 21 (((((51 : Int32) + ((6 : Int32) * (I2 18 18))) + (I3 18 18))).toInt.toNat)) 0) = false) (c4 : fx_X13_bad [.int (3 : Int32), .ref 18] (I3, L3) (some (.int 0)) (I4, L4)) : ∃ n, xr_X13_readDebt n (0, [(0, .ref 18)], [], (I, L)) (some (.int 0)) (I4, L4) := by
  refine xe_bT 3 (A := (15, [(0, .ref 18)], [], (I, L))) (B := (9, [(0, .ref 18)], [], (I, L))) h1 rfl ?_
  refine xe_go 0 (s' := (16, [(0, .ref 18)], [.ref 18], (I, L))) rfl ?_
  refine xe_vir (n := 1) (f := fx_X13_next) rfl (Nat.le_of_ble_eq_true rfl) (List.mem_of_getElem? (i := 1) rfl) (Nat.le_of_ble_eq_true rfl) c1 ?_
  refine xe_go 5 (s' := (28, [(0, .ref 18)], [.int (I1 21 0), .int (6 : Int32), .ref 18], (I1, L1))) rfl ?_
  refine xe_vir (n := 3) (f := fx_X13_takesName) rfl (Nat.le_of_ble_eq_true rfl) (List.mem_of_getElem? (i := 2) rfl) (Nat.le_of_ble_eq_true rfl) c2 ?_
  refine xe_go 9 (s' := (50, [(0, .ref 18), (1, .int (I2 18 18))], [.int (I2 21 0), .int (6 : Int32), .ref 18], (I2, L2))) rfl ?_
  refine xe_vir (n := 3) (f := fx_X13_looksAt) rfl (Nat.le_of_ble_eq_true rfl) (List.mem_of_getElem? (i := 3) rfl) (Nat.le_of_ble_eq_true rfl) c3 ?_
  refine xe_bF 13 (A := (88, [(0, .ref 18), (1, .int (I2 18 18)), (2, .int (((51 : Int32) + ((6 : Int32) * (I2 18 18))) + (I3 18 18)))], [], (I3, L3))) (B := (79, [(0, .ref 18), (1, .int (I2 18 18)), (2, .int (((51 : Int32) + ((6 : Int32) * (I2 18 18))) + (I3 18 18)))], [], (I3, L3))) h2 rfl ?_
  refine xe_ar 3 (A := (85, [(0, .ref 18), (1, .int (I2 18 18)), (2, .int (((51 : Int32) + ((6 : Int32) * (I2 18 18))) + (I3 18 18)))], [.int (I3 21 (((((51 : Int32) + ((6 : Int32) * (I2 18 18))) + (I3 18 18))).toInt.toNat))], (I3, L3))) h3 rfl ?_
  refine xe_bF 0 (A := (94, [(0, .ref 18), (1, .int (I2 18 18)), (2, .int (((51 : Int32) + ((6 : Int32) * (I2 18 18))) + (I3 18 18)))], [], (I3, L3))) (B := (88, [(0, .ref 18), (1, .int (I2 18 18)), (2, .int (((51 : Int32) + ((6 : Int32) * (I2 18 18))) + (I3 18 18)))], [], (I3, L3))) h4 rfl ?_
  refine xe_go 1 (s' := (90, [(0, .ref 18), (1, .int (I2 18 18)), (2, .int (((51 : Int32) + ((6 : Int32) * (I2 18 18))) + (I3 18 18)))], [.int (3 : Int32), .ref 18], (I3, L3))) rfl ?_
  refine xe_vir (n := 2) (f := fx_X13_bad) rfl (Nat.le_of_ble_eq_true rfl) (List.mem_of_getElem? (i := 0) rfl) (Nat.le_of_ble_eq_true rfl) c4 ?_
  exact xe_end rfl rfl rfl
set_option maxRecDepth 100000 in
theorem pt_X13_readDebt_4 {I I1 I2 I3 : Nat → Nat → Int32} {L L1 L2 L3 : Nat → Nat → Int64} (h1 : (xe_cmp .ne (I 18 20) (20 : Int32)) = true) (c1 : fx_X13_next [.ref 18] (I, L) none (I1, L1)) (c2 : fx_X13_takesName [.int (I1 21 0), .int (6 : Int32), .ref 18] (I1, L1) (some (.int 1)) (I2, L2)) (c3 : fx_X13_looksAt [.int (I2 21 0), .int (6 : Int32), .ref 18] (I2, L2) (some (.int 0)) (I3, L3)) : ∃ n, xr_X13_readDebt n (0, [(0, .ref 18)], [], (I, L)) (some (.int (0 : Int32))) (I3, L3) := by
  refine xe_bT 3 (A := (15, [(0, .ref 18)], [], (I, L))) (B := (9, [(0, .ref 18)], [], (I, L))) h1 rfl ?_
  refine xe_go 0 (s' := (16, [(0, .ref 18)], [.ref 18], (I, L))) rfl ?_
  refine xe_vir (n := 1) (f := fx_X13_next) rfl (Nat.le_of_ble_eq_true rfl) (List.mem_of_getElem? (i := 1) rfl) (Nat.le_of_ble_eq_true rfl) c1 ?_
  refine xe_go 5 (s' := (28, [(0, .ref 18)], [.int (I1 21 0), .int (6 : Int32), .ref 18], (I1, L1))) rfl ?_
  refine xe_vir (n := 3) (f := fx_X13_takesName) rfl (Nat.le_of_ble_eq_true rfl) (List.mem_of_getElem? (i := 2) rfl) (Nat.le_of_ble_eq_true rfl) c2 ?_
  refine xe_go 9 (s' := (50, [(0, .ref 18), (1, .int (I2 18 18))], [.int (I2 21 0), .int (6 : Int32), .ref 18], (I2, L2))) rfl ?_
  refine xe_vir (n := 3) (f := fx_X13_looksAt) rfl (Nat.le_of_ble_eq_true rfl) (List.mem_of_getElem? (i := 3) rfl) (Nat.le_of_ble_eq_true rfl) c3 ?_
  refine xe_go 1 (s' := (57, [(0, .ref 18), (1, .int (I2 18 18))], [.int (0 : Int32)], (I3, L3))) rfl ?_
  exact xe_end rfl rfl rfl
set_option maxRecDepth 100000 in
theorem pt_X13_readDebt_5 {I I1 I2 : Nat → Nat → Int32} {L L1 L2 : Nat → Nat → Int64} (h1 : (xe_cmp .ne (I 18 20) (20 : Int32)) = true) (c1 : fx_X13_next [.ref 18] (I, L) none (I1, L1)) (c2 : fx_X13_takesName [.int (I1 21 0), .int (6 : Int32), .ref 18] (I1, L1) (some (.int 0)) (I2, L2)) : ∃ n, xr_X13_readDebt n (0, [(0, .ref 18)], [], (I, L)) (some (.int (0 : Int32))) (I2, L2) := by
  refine xe_bT 3 (A := (15, [(0, .ref 18)], [], (I, L))) (B := (9, [(0, .ref 18)], [], (I, L))) h1 rfl ?_
  refine xe_go 0 (s' := (16, [(0, .ref 18)], [.ref 18], (I, L))) rfl ?_
  refine xe_vir (n := 1) (f := fx_X13_next) rfl (Nat.le_of_ble_eq_true rfl) (List.mem_of_getElem? (i := 1) rfl) (Nat.le_of_ble_eq_true rfl) c1 ?_
  refine xe_go 5 (s' := (28, [(0, .ref 18)], [.int (I1 21 0), .int (6 : Int32), .ref 18], (I1, L1))) rfl ?_
  refine xe_vir (n := 3) (f := fx_X13_takesName) rfl (Nat.le_of_ble_eq_true rfl) (List.mem_of_getElem? (i := 2) rfl) (Nat.le_of_ble_eq_true rfl) c2 ?_
  refine xe_go 1 (s' := (35, [(0, .ref 18)], [.int (0 : Int32)], (I2, L2))) rfl ?_
  exact xe_end rfl rfl rfl
set_option maxRecDepth 100000 in
theorem pt_X13_readDebt_6 {I I1 : Nat → Nat → Int32} {L L1 : Nat → Nat → Int64} (h1 : (xe_cmp .ne (I 18 20) (20 : Int32)) = false) (c1 : fx_X13_bad [.int (4 : Int32), .ref 18] (I, L) (some (.int 0)) (I1, L1)) : ∃ n, xr_X13_readDebt n (0, [(0, .ref 18)], [], (I, L)) (some (.int 0)) (I1, L1) := by
  refine xe_bF 3 (A := (15, [(0, .ref 18)], [], (I, L))) (B := (9, [(0, .ref 18)], [], (I, L))) h1 rfl ?_
  refine xe_go 1 (s' := (11, [(0, .ref 18)], [.int (4 : Int32), .ref 18], (I, L))) rfl ?_
  refine xe_vir (n := 2) (f := fx_X13_bad) rfl (Nat.le_of_ble_eq_true rfl) (List.mem_of_getElem? (i := 0) rfl) (Nat.le_of_ble_eq_true rfl) c1 ?_
  exact xe_end rfl rfl rfl
def xi_X13_line : List (Nat × Nat × Instr) := [(0, 1, .aload_n 0), (1, 3, .ldc2_w 84), (4, 3, .invokevirtual 193), (7, 3, .ifCond .eq 101), (10, 1, .aload_n 0), (11, 3, .getfield 37), (14, 1, .iconst 0), (15, 1, .iaload), (16, 2, .bipush 6), (18, 3, .if_icmp .ne 9), (21, 1, .aload_n 0), (22, 1, .iconst 4), (23, 3, .invokevirtual 168), (26, 1, .ireturn), (27, 1, .aload_n 0), (28, 3, .invokevirtual 171), (31, 1, .aload_n 0), (32, 3, .invokevirtual 181), (35, 3, .ifCond .ne 9), (38, 1, .aload_n 0), (39, 1, .iconst 1), (40, 3, .invokevirtual 168), (43, 1, .ireturn), (44, 1, .aload_n 0), (45, 3, .getfield 137), (48, 2, .bipush 7), (50, 3, .if_icmp .gt 18), (53, 1, .aload_n 0), (54, 2, .bipush 6), (56, 1, .aload_n 0), (57, 3, .getfield 37), (60, 1, .iconst 0), (61, 1, .iaload), (62, 3, .invokevirtual 185), (65, 3, .ifCond .lt 9), (68, 1, .aload_n 0), (69, 1, .iconst 3), (70, 3, .invokevirtual 168), (73, 1, .ireturn), (74, 1, .aload_n 0), (75, 3, .getfield 43), (78, 2, .bipush 6), (80, 1, .aload_n 0), (81, 3, .getfield 37), (84, 1, .iconst 0), (85, 1, .iaload), (86, 1, .iadd), (87, 1, .aload_n 0), (88, 3, .getfield 153), (91, 1, .lastore), (92, 1, .aload_n 0), (93, 3, .invokevirtual 171), (96, 1, .aload_n 0), (97, 3, .getfield 37), (100, 1, .iconst 0), (101, 1, .dup2), (102, 1, .iaload), (103, 1, .iconst 1), (104, 1, .iadd), (105, 1, .iastore), (106, 1, .iconst 1), (107, 1, .ireturn), (108, 1, .aload_n 0), (109, 3, .ldc2_w 86), (112, 3, .invokevirtual 193), (115, 3, .ifCond .eq 63), (118, 1, .aload_n 0), (119, 3, .getfield 37), (122, 1, .iconst 1), (123, 1, .iaload), (124, 2, .bipush 16), (126, 3, .if_icmp .ne 9), (129, 1, .aload_n 0), (130, 1, .iconst 4), (131, 3, .invokevirtual 168), (134, 1, .ireturn), (135, 1, .aload_n 0), (136, 3, .invokevirtual 171), (139, 1, .aload_n 0), (140, 2, .bipush 6), (142, 1, .aload_n 0), (143, 3, .getfield 37), (146, 1, .iconst 0), (147, 1, .iaload), (148, 3, .invokevirtual 197), (151, 3, .ifCond .ne 5), (154, 1, .iconst 0), (155, 1, .ireturn), (156, 1, .aload_n 0), (157, 3, .getfield 37), (160, 1, .iconst 3), (161, 1, .aload_n 0), (162, 3, .getfield 37), (165, 1, .iconst 1), (166, 1, .iaload), (167, 1, .iadd), (168, 1, .aload_n 0), (169, 3, .getfield 178), (172, 1, .iastore), (173, 1, .aload_n 0), (174, 3, .invokevirtual 200), (177, 1, .ireturn), (178, 1, .aload_n 0), (179, 3, .ldc2_w 88), (182, 3, .invokevirtual 193), (185, 3, .ifCond .eq 8), (188, 1, .aload_n 0), (189, 3, .invokevirtual 203), (192, 1, .ireturn), (193, 1, .aload_n 0), (194, 3, .ldc2_w 90), (197, 3, .invokevirtual 193), (200, 3, .ifCond .ne 9), (203, 1, .aload_n 0), (204, 1, .iconst 1), (205, 3, .invokevirtual 168), (208, 1, .ireturn), (209, 1, .aload_n 0), (210, 3, .getfield 206), (213, 3, .ifCond .eq 9), (216, 1, .aload_n 0), (217, 1, .iconst 3), (218, 3, .invokevirtual 168), (221, 1, .ireturn), (222, 1, .aload_n 0), (223, 1, .iconst 1), (224, 3, .putfield 206), (227, 1, .aload_n 0), (228, 3, .invokevirtual 171), (231, 1, .aload_n 0), (232, 1, .iconst 0), (233, 2, .bipush 12), (235, 3, .invokevirtual 210), (238, 3, .ifCond .ne 5), (241, 1, .iconst 0), (242, 1, .ireturn), (243, 1, .aload_n 0), (244, 3, .getfield 37), (247, 1, .iconst 2), (248, 1, .aload_n 0), (249, 3, .getfield 178), (252, 1, .iastore), (253, 1, .iconst 1), (254, 1, .ireturn)]
def xg_X13_line : zf_ft := [(37, 11, 7, .inl (0, 0)), (137, 11, 13, .inl (0, 0)), (43, 11, 9, .inl (0, 0)), (153, 11, 17, .inl (0, 0)), (178, 11, 18, .inl (0, 0)), (206, 11, 21, .inl (0, 0))]
def xp_X13_line : zf_ft := [(206, 11, 21, .inl (0, 1))]
def xv_X13_line : List (Nat × Nat × xe_F) := [(193, 2, fx_X13_isWord), (168, 2, fx_X13_bad), (171, 1, fx_X13_next), (181, 1, fx_X13_isName), (185, 3, fx_X13_find), (197, 3, fx_X13_takesName), (200, 1, fx_X13_readRungs), (203, 1, fx_X13_readDebt), (210, 3, fx_X13_takes)]
def xt_X13_line : List (Nat × Nat × xe_F) := []
abbrev xr_X13_line := xe_run xGT xSC xRF 1 xg_X13_line xp_X13_line [] [(84, 7168366), (86, 119165551928690), (88, 1684365940), (90, 7499636)] xv_X13_line xt_X13_line xi_X13_line
def fx_X13_line : xe_F := fun us hp v hp' => (us.map fun v => v.category).sum ≤ 1 ∧ xe_rt (some .boolean) v ∧ (∃ ar, us = ar ++ [.ref 18]) ∧ ∃ n, xr_X13_line n (0, xe_ag 0 us.reverse, [], hp) v hp'
theorem mk_X13_line  {hp hp' : xe_H} {v : Option Value} (hr : xe_rt (some .boolean) v) (h : ∃ n, xr_X13_line n (0, [(0, .ref 18)], [], hp) v hp') : fx_X13_line [.ref 18] hp v hp' := ⟨Nat.le_of_ble_eq_true rfl, hr, ⟨[], rfl⟩, h⟩
theorem hx_X13_line : ∀ us hp v hp', fx_X13_line us hp v hp' → (us.map fun v => v.category).sum ≤ 1 ∧ xe_rt (some .boolean) v ∧ ∃ n, xr_X13_line n (0, xe_ag 0 us.reverse, [], hp) v hp' := fun us hp v hp' h => ⟨h.1, h.2.1, h.2.2.2⟩
theorem fr_X13_line : ∀ us hp v hp', fx_X13_line us hp v hp' → ∃ ar, us = ar ++ [.ref 18] := fun us hp v hp' h => h.2.2.1
set_option maxRecDepth 100000 in
set_option maxHeartbeats 4000000 in
theorem kx_X13_line (l : Launch) (D : va_G) (k : Nat → ClassId) (B0 : Nat) (ad : Nat → Nat) (al sw : Nat) : xe_Con l yX13_line (zw yX13_line cX13_line 1 (some .boolean)) ({ frames := 4, cells := 0, slots := 0, locals := 89 }) D k ad (zEx B0 ad al sw) xGT xSC xRF fx_X13_line := by
  have hEx := zEx_ok B0 ad al sw
  refine xe_mk (cc := cX13_line) (nL := 1) (ret := (some .boolean)) (fg := xg_X13_line) (fp := xp_X13_line) (sg := []) (lc := [(84, 7168366), (86, 119165551928690), (88, 1684365940), (90, 7499636)]) (cv := xv_X13_line) (cs := xt_X13_line) (ins := xi_X13_line) (by decide) rfl hEx (by decide +kernel) hx_X13_line ?_
  intro p e s m args below meth c Q Sg w0 A θ S hK hE hAB hA hth
  refine ⟨?_, ?_, ?_, ?_, ?_, ?_⟩
  · exact zf_ac ((fun H locs ws a q0 fs v rest pc ls hP he hv hdg kk => va_get (D := D) (ci := 11) (C := RX13) (T := TX13) (N := 47) (own := RX13) S.1 S.2.1 S.2.2.2.2 (zg_in inW_X13) S.2.2.2.1 hK hP q0 he rfl 7 (by decide) (S.2.2.2.2 (.fieldLink RX13 37 "RungMoneyModel" "h" "[I") (List.mem_cons_of_mem _ zw_1355)) (fun _ h9 => h9) hv hdg kk)) (zf_ac ((fun H locs ws a q0 fs v rest pc ls hP he hv hdg kk => va_get (D := D) (ci := 11) (C := RX13) (T := TX13) (N := 47) (own := RX13) S.1 S.2.1 S.2.2.2.2 (zg_in inW_X13) S.2.2.2.1 hK hP q0 he rfl 13 (by decide) (S.2.2.2.2 (.fieldLink RX13 137 "RungMoneyModel" "span" "I") (List.mem_cons_of_mem _ zw_1361)) (fun _ h9 => h9) hv hdg kk)) (zf_ac ((fun H locs ws a q0 fs v rest pc ls hP he hv hdg kk => va_get (D := D) (ci := 11) (C := RX13) (T := TX13) (N := 47) (own := RX13) S.1 S.2.1 S.2.2.2.2 (zg_in inW_X13) S.2.2.2.1 hK hP q0 he rfl 9 (by decide) (S.2.2.2.2 (.fieldLink RX13 43 "RungMoneyModel" "names" "[J") (List.mem_cons_of_mem _ zw_1357)) (fun _ h9 => h9) hv hdg kk)) (zf_ac ((fun H locs ws a q0 fs v rest pc ls hP he hv hdg kk => va_get (D := D) (ci := 11) (C := RX13) (T := TX13) (N := 47) (own := RX13) S.1 S.2.1 S.2.2.2.2 (zg_in inW_X13) S.2.2.2.1 hK hP q0 he rfl 17 (by decide) (S.2.2.2.2 (.fieldLink RX13 153 "RungMoneyModel" "word" "J") (List.mem_cons_of_mem _ zw_1365)) (fun _ h9 => h9) hv hdg kk)) (zf_ac ((fun H locs ws a q0 fs v rest pc ls hP he hv hdg kk => va_get (D := D) (ci := 11) (C := RX13) (T := TX13) (N := 47) (own := RX13) S.1 S.2.1 S.2.2.2.2 (zg_in inW_X13) S.2.2.2.1 hK hP q0 he rfl 18 (by decide) (S.2.2.2.2 (.fieldLink RX13 178 "RungMoneyModel" "got" "I") (List.mem_cons_of_mem _ zw_1366)) (fun _ h9 => h9) hv hdg kk)) (zf_ac ((fun H locs ws a q0 fs v rest pc ls hP he hv hdg kk => va_get (D := D) (ci := 11) (C := RX13) (T := TX13) (N := 47) (own := RX13) S.1 S.2.1 S.2.2.2.2 (zg_in inW_X13) S.2.2.2.1 hK hP q0 he rfl 21 (by decide) (S.2.2.2.2 (.fieldLink RX13 206 "RungMoneyModel" "hasRot" "Z") (List.mem_cons_of_mem _ zw_1369)) (fun _ h9 => h9) hv hdg kk)) zf_an)))))
  · exact zf_ac ((fun H locs ws a q0 fs v rest pc ls hP hD hS he hl hv hdg kk => by obtain ⟨x, rfl, h1, h2⟩ := hv; rcases zf_01 h1 h2 with rfl | rfl <;> exact va_put (D := D) (ci := 11) (v := .int _) (ty := .boolean) (C := RX13) (T := TX13) (N := 47) (own := RX13) S.1 S.2.1 S.2.2.2.2 (zg_in inW_X13) tyX13 tyX13_ok nmX13 S.2.2.2.1 hK hP hD hS q0 he rfl 21 (by decide) (S.2.2.2.2 (.fieldLink RX13 206 "RungMoneyModel" "hasRot" "Z") (List.mem_cons_of_mem _ zw_1369)) (fun _ h9 => h9) rfl (by decide +kernel) rfl rfl hl hdg kk)) zf_an
  · exact xe_n2
  · exact xe_a3 ((fun H locs rest pc ls hdg kk => lv_ldc2 S.1 S.2.1 S.2.2.2.1 (S.2.2.2.2 (.constantLong RX13 84 7168366) (List.mem_cons_of_mem _ zw_1325)) hdg kk)) (xe_a3 ((fun H locs rest pc ls hdg kk => lv_ldc2 S.1 S.2.1 S.2.2.2.1 (S.2.2.2.2 (.constantLong RX13 86 119165551928690) (List.mem_cons_of_mem _ zw_1326)) hdg kk)) (xe_a3 ((fun H locs rest pc ls hdg kk => lv_ldc2 S.1 S.2.1 S.2.2.2.1 (S.2.2.2.2 (.constantLong RX13 88 1684365940) (List.mem_cons_of_mem _ zw_1327)) hdg kk)) (xe_a3 ((fun H locs rest pc ls hdg kk => lv_ldc2 S.1 S.2.1 S.2.2.2.1 (S.2.2.2.2 (.constantLong RX13 90 7499636) (List.mem_cons_of_mem _ zw_1328)) hdg kk)) xe_n3)))
  · exact xe_a4 (xe_crV S hEx hE hAB hA hK hth (kx_X13_isWord l D k B0 ad al sw) (cwV 1 S.2.2.2.2 (zg_V zw_1518 zw_1520 zw_30 zw_109 zw_1521) rfl rfl rfl (by decide +kernel) ⟨(Nat.le_of_ble_eq_true rfl), (Nat.le_of_ble_eq_true rfl)⟩) ⟨(Nat.le_of_ble_eq_true rfl), (Nat.le_of_ble_eq_true rfl)⟩ 11 rfl rfl 18 (by decide +kernel) fr_X13_isWord) (xe_a4 (xe_crV S hEx hE hAB hA hK hth (kx_X13_bad l D k B0 ad al sw) (cwV 1 S.2.2.2.2 (zg_V zw_1522 zw_1524 zw_31 zw_109 zw_1525) rfl rfl rfl (by decide +kernel) ⟨(Nat.le_of_ble_eq_true rfl), (Nat.le_of_ble_eq_true rfl)⟩) ⟨(Nat.le_of_ble_eq_true rfl), (Nat.le_of_ble_eq_true rfl)⟩ 11 rfl rfl 18 (by decide +kernel) fr_X13_bad) (xe_a4 (xe_crV S hEx hE hAB hA hK hth (kx_X13_next l D k B0 ad al sw) (cwV 0 S.2.2.2.2 (zg_V zw_1499 zw_1501 zw_27 zw_109 zw_1502) rfl rfl rfl (by decide +kernel) ⟨(Nat.le_of_ble_eq_true rfl), (Nat.le_of_ble_eq_true rfl)⟩) ⟨(Nat.le_of_ble_eq_true rfl), (Nat.le_of_ble_eq_true rfl)⟩ 11 rfl rfl 18 (by decide +kernel) fr_X13_next) (xe_a4 (xe_crV S hEx hE hAB hA hK hth (kx_X13_isName l D k B0 ad al sw) (cwV 0 S.2.2.2.2 (zg_V zw_1526 zw_1528 zw_32 zw_109 zw_1529) rfl rfl rfl (by decide +kernel) ⟨(Nat.le_of_ble_eq_true rfl), (Nat.le_of_ble_eq_true rfl)⟩) ⟨(Nat.le_of_ble_eq_true rfl), (Nat.le_of_ble_eq_true rfl)⟩ 11 rfl rfl 18 (by decide +kernel) fr_X13_isName) (xe_a4 (xe_crV S hEx hE hAB hA hK hth (kx_X13_find l D k B0 ad al sw) (cwV 2 S.2.2.2.2 (zg_V zw_1530 zw_1532 zw_33 zw_109 zw_1533) rfl rfl rfl (by decide +kernel) ⟨(Nat.le_of_ble_eq_true rfl), (Nat.le_of_ble_eq_true rfl)⟩) ⟨(Nat.le_of_ble_eq_true rfl), (Nat.le_of_ble_eq_true rfl)⟩ 11 rfl rfl 18 (by decide +kernel) fr_X13_find) (xe_a4 (xe_crV S hEx hE hAB hA hK hth (kx_X13_takesName l D k B0 ad al sw) (cwV 2 S.2.2.2.2 (zg_V zw_1534 zw_1536 zw_34 zw_109 zw_1537) rfl rfl rfl (by decide +kernel) ⟨(Nat.le_of_ble_eq_true rfl), (Nat.le_of_ble_eq_true rfl)⟩) ⟨(Nat.le_of_ble_eq_true rfl), (Nat.le_of_ble_eq_true rfl)⟩ 11 rfl rfl 18 (by decide +kernel) fr_X13_takesName) (xe_a4 (xe_crV S hEx hE hAB hA hK hth (kx_X13_readRungs l D k B0 ad al sw) (cwV 0 S.2.2.2.2 (zg_V zw_1542 zw_1544 zw_36 zw_109 zw_1545) rfl rfl rfl (by decide +kernel) ⟨(Nat.le_of_ble_eq_true rfl), (Nat.le_of_ble_eq_true rfl)⟩) ⟨(Nat.le_of_ble_eq_true rfl), (Nat.le_of_ble_eq_true rfl)⟩ 11 rfl rfl 18 (by decide +kernel) fr_X13_readRungs) (xe_a4 (xe_crV S hEx hE hAB hA hK hth (kx_X13_readDebt l D k B0 ad al sw) (cwV 0 S.2.2.2.2 (zg_V zw_1553 zw_1555 zw_38 zw_109 zw_1556) rfl rfl rfl (by decide +kernel) ⟨(Nat.le_of_ble_eq_true rfl), (Nat.le_of_ble_eq_true rfl)⟩) ⟨(Nat.le_of_ble_eq_true rfl), (Nat.le_of_ble_eq_true rfl)⟩ 11 rfl rfl 18 (by decide +kernel) fr_X13_readDebt) (xe_a4 (xe_crV S hEx hE hAB hA hK hth (kx_X13_takes l D k B0 ad al sw) (cwV 2 S.2.2.2.2 (zg_V zw_1557 zw_1559 zw_39 zw_109 zw_1560) rfl rfl rfl (by decide +kernel) ⟨(Nat.le_of_ble_eq_true rfl), (Nat.le_of_ble_eq_true rfl)⟩) ⟨(Nat.le_of_ble_eq_true rfl), (Nat.le_of_ble_eq_true rfl)⟩ 11 rfl rfl 18 (by decide +kernel) fr_X13_takes) xe_n4))))))))
  · exact xe_n4
set_option maxRecDepth 100000 in
theorem pt_X13_line_0 {I I1 I2 I3 I4 : Nat → Nat → Int32} {L L1 L2 L3 L4 : Nat → Nat → Int64} (c1 : fx_X13_isWord [.long (7168366 : Int64), .ref 18] (I, L) (some (.int 1)) (I1, L1)) (h1 : (xe_cmp .ne (I1 21 0) (6 : Int32)) = true) (c2 : fx_X13_next [.ref 18] (I1, L1) none (I2, L2)) (c3 : fx_X13_isName [.ref 18] (I2, L2) (some (.int 1)) (I3, L3)) (h2 : (xe_cmp .gt (I3 18 13) (7 : Int32)) = true) (c4 : fx_X13_bad [.int (3 : Int32), .ref 18] (I3, L3) (some (.int 0)) (I4, L4)) : ∃ n, xr_X13_line n (0, [(0, .ref 18)], [], (I, L)) (some (.int 0)) (I4, L4) := by
  refine xe_go 1 (s' := (4, [(0, .ref 18)], [.long (7168366 : Int64), .ref 18], (I, L))) rfl ?_
  refine xe_vir (n := 2) (f := fx_X13_isWord) rfl (Nat.le_of_ble_eq_true rfl) (List.mem_of_getElem? (i := 0) rfl) (Nat.le_of_ble_eq_true rfl) c1 ?_
  refine xe_bT 6 (A := (27, [(0, .ref 18)], [], (I1, L1))) (B := (21, [(0, .ref 18)], [], (I1, L1))) h1 rfl ?_
  refine xe_go 0 (s' := (28, [(0, .ref 18)], [.ref 18], (I1, L1))) rfl ?_
  refine xe_vir (n := 1) (f := fx_X13_next) rfl (Nat.le_of_ble_eq_true rfl) (List.mem_of_getElem? (i := 2) rfl) (Nat.le_of_ble_eq_true rfl) c2 ?_
  refine xe_go 0 (s' := (32, [(0, .ref 18)], [.ref 18], (I2, L2))) rfl ?_
  refine xe_vir (n := 1) (f := fx_X13_isName) rfl (Nat.le_of_ble_eq_true rfl) (List.mem_of_getElem? (i := 3) rfl) (Nat.le_of_ble_eq_true rfl) c3 ?_
  refine xe_bT 4 (A := (68, [(0, .ref 18)], [], (I3, L3))) (B := (53, [(0, .ref 18)], [], (I3, L3))) h2 rfl ?_
  refine xe_go 1 (s' := (70, [(0, .ref 18)], [.int (3 : Int32), .ref 18], (I3, L3))) rfl ?_
  refine xe_vir (n := 2) (f := fx_X13_bad) rfl (Nat.le_of_ble_eq_true rfl) (List.mem_of_getElem? (i := 1) rfl) (Nat.le_of_ble_eq_true rfl) c4 ?_
  exact xe_end rfl rfl rfl
set_option maxRecDepth 100000 in
theorem pt_X13_line_1 {I I1 I2 I3 I4 I5 : Nat → Nat → Int32} {L L1 L2 L3 L4 L5 : Nat → Nat → Int64} {r4 : Int32} (c1 : fx_X13_isWord [.long (7168366 : Int64), .ref 18] (I, L) (some (.int 1)) (I1, L1)) (h1 : (xe_cmp .ne (I1 21 0) (6 : Int32)) = true) (c2 : fx_X13_next [.ref 18] (I1, L1) none (I2, L2)) (c3 : fx_X13_isName [.ref 18] (I2, L2) (some (.int 1)) (I3, L3)) (h2 : (xe_cmp .gt (I3 18 13) (7 : Int32)) = false) (c4 : fx_X13_find [.int (I3 21 0), .int (6 : Int32), .ref 18] (I3, L3) (some (.int r4)) (I4, L4)) (h3 : (xe_cmp .lt r4 0) = true) (h4 : xe_ib ((6 : Int32) + (I4 21 0)) 12 = true) (c5 : fx_X13_next [.ref 18] (I4, (xul L4 23 ((((6 : Int32) + (I4 21 0))).toInt.toNat) (L4 18 17))) none (I5, L5)) : ∃ n, xr_X13_line n (0, [(0, .ref 18)], [], (I, L)) (some (.int (1 : Int32))) ((xu I5 21 0 ((I5 21 0) + (1 : Int32))), L5) := by
  refine xe_go 1 (s' := (4, [(0, .ref 18)], [.long (7168366 : Int64), .ref 18], (I, L))) rfl ?_
  refine xe_vir (n := 2) (f := fx_X13_isWord) rfl (Nat.le_of_ble_eq_true rfl) (List.mem_of_getElem? (i := 0) rfl) (Nat.le_of_ble_eq_true rfl) c1 ?_
  refine xe_bT 6 (A := (27, [(0, .ref 18)], [], (I1, L1))) (B := (21, [(0, .ref 18)], [], (I1, L1))) h1 rfl ?_
  refine xe_go 0 (s' := (28, [(0, .ref 18)], [.ref 18], (I1, L1))) rfl ?_
  refine xe_vir (n := 1) (f := fx_X13_next) rfl (Nat.le_of_ble_eq_true rfl) (List.mem_of_getElem? (i := 2) rfl) (Nat.le_of_ble_eq_true rfl) c2 ?_
  refine xe_go 0 (s' := (32, [(0, .ref 18)], [.ref 18], (I2, L2))) rfl ?_
  refine xe_vir (n := 1) (f := fx_X13_isName) rfl (Nat.le_of_ble_eq_true rfl) (List.mem_of_getElem? (i := 3) rfl) (Nat.le_of_ble_eq_true rfl) c3 ?_
  refine xe_bF 4 (A := (68, [(0, .ref 18)], [], (I3, L3))) (B := (53, [(0, .ref 18)], [], (I3, L3))) h2 rfl ?_
  refine xe_go 5 (s' := (62, [(0, .ref 18)], [.int (I3 21 0), .int (6 : Int32), .ref 18], (I3, L3))) rfl ?_
  refine xe_vir (n := 3) (f := fx_X13_find) rfl (Nat.le_of_ble_eq_true rfl) (List.mem_of_getElem? (i := 4) rfl) (Nat.le_of_ble_eq_true rfl) c4 ?_
  refine xe_bT 0 (A := (74, [(0, .ref 18)], [], (I4, L4))) (B := (68, [(0, .ref 18)], [], (I4, L4))) h3 rfl ?_
  refine xe_ar 10 (A := (92, [(0, .ref 18)], [], (I4, (xul L4 23 ((((6 : Int32) + (I4 21 0))).toInt.toNat) (L4 18 17))))) h4 rfl ?_
  refine xe_go 0 (s' := (93, [(0, .ref 18)], [.ref 18], (I4, (xul L4 23 ((((6 : Int32) + (I4 21 0))).toInt.toNat) (L4 18 17))))) rfl ?_
  refine xe_vir (n := 1) (f := fx_X13_next) rfl (Nat.le_of_ble_eq_true rfl) (List.mem_of_getElem? (i := 2) rfl) (Nat.le_of_ble_eq_true rfl) c5 ?_
  refine xe_go 8 (s' := (107, [(0, .ref 18)], [.int (1 : Int32)], ((xu I5 21 0 ((I5 21 0) + (1 : Int32))), L5))) rfl ?_
  exact xe_end rfl rfl rfl
set_option maxRecDepth 100000 in
theorem pt_X13_line_2 {I I1 I2 I3 I4 I5 : Nat → Nat → Int32} {L L1 L2 L3 L4 L5 : Nat → Nat → Int64} {r4 : Int32} (c1 : fx_X13_isWord [.long (7168366 : Int64), .ref 18] (I, L) (some (.int 1)) (I1, L1)) (h1 : (xe_cmp .ne (I1 21 0) (6 : Int32)) = true) (c2 : fx_X13_next [.ref 18] (I1, L1) none (I2, L2)) (c3 : fx_X13_isName [.ref 18] (I2, L2) (some (.int 1)) (I3, L3)) (h2 : (xe_cmp .gt (I3 18 13) (7 : Int32)) = false) (c4 : fx_X13_find [.int (I3 21 0), .int (6 : Int32), .ref 18] (I3, L3) (some (.int r4)) (I4, L4)) (h3 : (xe_cmp .lt r4 0) = false) (c5 : fx_X13_bad [.int (3 : Int32), .ref 18] (I4, L4) (some (.int 0)) (I5, L5)) : ∃ n, xr_X13_line n (0, [(0, .ref 18)], [], (I, L)) (some (.int 0)) (I5, L5) := by
  refine xe_go 1 (s' := (4, [(0, .ref 18)], [.long (7168366 : Int64), .ref 18], (I, L))) rfl ?_
  refine xe_vir (n := 2) (f := fx_X13_isWord) rfl (Nat.le_of_ble_eq_true rfl) (List.mem_of_getElem? (i := 0) rfl) (Nat.le_of_ble_eq_true rfl) c1 ?_
  refine xe_bT 6 (A := (27, [(0, .ref 18)], [], (I1, L1))) (B := (21, [(0, .ref 18)], [], (I1, L1))) h1 rfl ?_
  refine xe_go 0 (s' := (28, [(0, .ref 18)], [.ref 18], (I1, L1))) rfl ?_
  refine xe_vir (n := 1) (f := fx_X13_next) rfl (Nat.le_of_ble_eq_true rfl) (List.mem_of_getElem? (i := 2) rfl) (Nat.le_of_ble_eq_true rfl) c2 ?_
  refine xe_go 0 (s' := (32, [(0, .ref 18)], [.ref 18], (I2, L2))) rfl ?_
  refine xe_vir (n := 1) (f := fx_X13_isName) rfl (Nat.le_of_ble_eq_true rfl) (List.mem_of_getElem? (i := 3) rfl) (Nat.le_of_ble_eq_true rfl) c3 ?_
  refine xe_bF 4 (A := (68, [(0, .ref 18)], [], (I3, L3))) (B := (53, [(0, .ref 18)], [], (I3, L3))) h2 rfl ?_
  refine xe_go 5 (s' := (62, [(0, .ref 18)], [.int (I3 21 0), .int (6 : Int32), .ref 18], (I3, L3))) rfl ?_
  refine xe_vir (n := 3) (f := fx_X13_find) rfl (Nat.le_of_ble_eq_true rfl) (List.mem_of_getElem? (i := 4) rfl) (Nat.le_of_ble_eq_true rfl) c4 ?_
  refine xe_bF 0 (A := (74, [(0, .ref 18)], [], (I4, L4))) (B := (68, [(0, .ref 18)], [], (I4, L4))) h3 rfl ?_
  refine xe_go 1 (s' := (70, [(0, .ref 18)], [.int (3 : Int32), .ref 18], (I4, L4))) rfl ?_
  refine xe_vir (n := 2) (f := fx_X13_bad) rfl (Nat.le_of_ble_eq_true rfl) (List.mem_of_getElem? (i := 1) rfl) (Nat.le_of_ble_eq_true rfl) c5 ?_
  exact xe_end rfl rfl rfl
set_option maxRecDepth 100000 in
theorem pt_X13_line_3 {I I1 I2 I3 I4 : Nat → Nat → Int32} {L L1 L2 L3 L4 : Nat → Nat → Int64} (c1 : fx_X13_isWord [.long (7168366 : Int64), .ref 18] (I, L) (some (.int 1)) (I1, L1)) (h1 : (xe_cmp .ne (I1 21 0) (6 : Int32)) = true) (c2 : fx_X13_next [.ref 18] (I1, L1) none (I2, L2)) (c3 : fx_X13_isName [.ref 18] (I2, L2) (some (.int 0)) (I3, L3)) (c4 : fx_X13_bad [.int (1 : Int32), .ref 18] (I3, L3) (some (.int 0)) (I4, L4)) : ∃ n, xr_X13_line n (0, [(0, .ref 18)], [], (I, L)) (some (.int 0)) (I4, L4) := by
  refine xe_go 1 (s' := (4, [(0, .ref 18)], [.long (7168366 : Int64), .ref 18], (I, L))) rfl ?_
  refine xe_vir (n := 2) (f := fx_X13_isWord) rfl (Nat.le_of_ble_eq_true rfl) (List.mem_of_getElem? (i := 0) rfl) (Nat.le_of_ble_eq_true rfl) c1 ?_
  refine xe_bT 6 (A := (27, [(0, .ref 18)], [], (I1, L1))) (B := (21, [(0, .ref 18)], [], (I1, L1))) h1 rfl ?_
  refine xe_go 0 (s' := (28, [(0, .ref 18)], [.ref 18], (I1, L1))) rfl ?_
  refine xe_vir (n := 1) (f := fx_X13_next) rfl (Nat.le_of_ble_eq_true rfl) (List.mem_of_getElem? (i := 2) rfl) (Nat.le_of_ble_eq_true rfl) c2 ?_
  refine xe_go 0 (s' := (32, [(0, .ref 18)], [.ref 18], (I2, L2))) rfl ?_
  refine xe_vir (n := 1) (f := fx_X13_isName) rfl (Nat.le_of_ble_eq_true rfl) (List.mem_of_getElem? (i := 3) rfl) (Nat.le_of_ble_eq_true rfl) c3 ?_
  refine xe_go 2 (s' := (40, [(0, .ref 18)], [.int (1 : Int32), .ref 18], (I3, L3))) rfl ?_
  refine xe_vir (n := 2) (f := fx_X13_bad) rfl (Nat.le_of_ble_eq_true rfl) (List.mem_of_getElem? (i := 1) rfl) (Nat.le_of_ble_eq_true rfl) c4 ?_
  exact xe_end rfl rfl rfl
set_option maxRecDepth 100000 in
theorem pt_X13_line_4 {I I1 I2 : Nat → Nat → Int32} {L L1 L2 : Nat → Nat → Int64} (c1 : fx_X13_isWord [.long (7168366 : Int64), .ref 18] (I, L) (some (.int 1)) (I1, L1)) (h1 : (xe_cmp .ne (I1 21 0) (6 : Int32)) = false) (c2 : fx_X13_bad [.int (4 : Int32), .ref 18] (I1, L1) (some (.int 0)) (I2, L2)) : ∃ n, xr_X13_line n (0, [(0, .ref 18)], [], (I, L)) (some (.int 0)) (I2, L2) := by
  refine xe_go 1 (s' := (4, [(0, .ref 18)], [.long (7168366 : Int64), .ref 18], (I, L))) rfl ?_
  refine xe_vir (n := 2) (f := fx_X13_isWord) rfl (Nat.le_of_ble_eq_true rfl) (List.mem_of_getElem? (i := 0) rfl) (Nat.le_of_ble_eq_true rfl) c1 ?_
  refine xe_bF 6 (A := (27, [(0, .ref 18)], [], (I1, L1))) (B := (21, [(0, .ref 18)], [], (I1, L1))) h1 rfl ?_
  refine xe_go 1 (s' := (23, [(0, .ref 18)], [.int (4 : Int32), .ref 18], (I1, L1))) rfl ?_
  refine xe_vir (n := 2) (f := fx_X13_bad) rfl (Nat.le_of_ble_eq_true rfl) (List.mem_of_getElem? (i := 1) rfl) (Nat.le_of_ble_eq_true rfl) c2 ?_
  exact xe_end rfl rfl rfl
set_option maxRecDepth 100000 in
theorem pt_X13_line_5 {I I1 I2 I3 I4 I5 : Nat → Nat → Int32} {L L1 L2 L3 L4 L5 : Nat → Nat → Int64} (c1 : fx_X13_isWord [.long (7168366 : Int64), .ref 18] (I, L) (some (.int 0)) (I1, L1)) (c2 : fx_X13_isWord [.long (119165551928690 : Int64), .ref 18] (I1, L1) (some (.int 1)) (I2, L2)) (h1 : (xe_cmp .ne (I2 21 1) (16 : Int32)) = true) (c3 : fx_X13_next [.ref 18] (I2, L2) none (I3, L3)) (c4 : fx_X13_takesName [.int (I3 21 0), .int (6 : Int32), .ref 18] (I3, L3) (some (.int 1)) (I4, L4)) (h2 : xe_ib ((3 : Int32) + (I4 21 1)) 87 = true) (c5 : fx_X13_readRungs [.ref 18] ((xu I4 21 ((((3 : Int32) + (I4 21 1))).toInt.toNat) (I4 18 18)), L4) (some (.int 1)) (I5, L5)) : ∃ n, xr_X13_line n (0, [(0, .ref 18)], [], (I, L)) (some (.int 1)) (I5, L5) := by
  refine xe_go 1 (s' := (4, [(0, .ref 18)], [.long (7168366 : Int64), .ref 18], (I, L))) rfl ?_
  refine xe_vir (n := 2) (f := fx_X13_isWord) rfl (Nat.le_of_ble_eq_true rfl) (List.mem_of_getElem? (i := 0) rfl) (Nat.le_of_ble_eq_true rfl) c1 ?_
  refine xe_go 2 (s' := (112, [(0, .ref 18)], [.long (119165551928690 : Int64), .ref 18], (I1, L1))) rfl ?_
  refine xe_vir (n := 2) (f := fx_X13_isWord) rfl (Nat.le_of_ble_eq_true rfl) (List.mem_of_getElem? (i := 0) rfl) (Nat.le_of_ble_eq_true rfl) c2 ?_
  refine xe_bT 6 (A := (135, [(0, .ref 18)], [], (I2, L2))) (B := (129, [(0, .ref 18)], [], (I2, L2))) h1 rfl ?_
  refine xe_go 0 (s' := (136, [(0, .ref 18)], [.ref 18], (I2, L2))) rfl ?_
  refine xe_vir (n := 1) (f := fx_X13_next) rfl (Nat.le_of_ble_eq_true rfl) (List.mem_of_getElem? (i := 2) rfl) (Nat.le_of_ble_eq_true rfl) c3 ?_
  refine xe_go 5 (s' := (148, [(0, .ref 18)], [.int (I3 21 0), .int (6 : Int32), .ref 18], (I3, L3))) rfl ?_
  refine xe_vir (n := 3) (f := fx_X13_takesName) rfl (Nat.le_of_ble_eq_true rfl) (List.mem_of_getElem? (i := 5) rfl) (Nat.le_of_ble_eq_true rfl) c4 ?_
  refine xe_ar 11 (A := (173, [(0, .ref 18)], [], ((xu I4 21 ((((3 : Int32) + (I4 21 1))).toInt.toNat) (I4 18 18)), L4))) h2 rfl ?_
  refine xe_go 0 (s' := (174, [(0, .ref 18)], [.ref 18], ((xu I4 21 ((((3 : Int32) + (I4 21 1))).toInt.toNat) (I4 18 18)), L4))) rfl ?_
  refine xe_vir (n := 1) (f := fx_X13_readRungs) rfl (Nat.le_of_ble_eq_true rfl) (List.mem_of_getElem? (i := 6) rfl) (Nat.le_of_ble_eq_true rfl) c5 ?_
  exact xe_end rfl rfl rfl
set_option maxRecDepth 100000 in
theorem pt_X13_line_6 {I I1 I2 I3 I4 I5 : Nat → Nat → Int32} {L L1 L2 L3 L4 L5 : Nat → Nat → Int64} (c1 : fx_X13_isWord [.long (7168366 : Int64), .ref 18] (I, L) (some (.int 0)) (I1, L1)) (c2 : fx_X13_isWord [.long (119165551928690 : Int64), .ref 18] (I1, L1) (some (.int 1)) (I2, L2)) (h1 : (xe_cmp .ne (I2 21 1) (16 : Int32)) = true) (c3 : fx_X13_next [.ref 18] (I2, L2) none (I3, L3)) (c4 : fx_X13_takesName [.int (I3 21 0), .int (6 : Int32), .ref 18] (I3, L3) (some (.int 1)) (I4, L4)) (h2 : xe_ib ((3 : Int32) + (I4 21 1)) 87 = true) (c5 : fx_X13_readRungs [.ref 18] ((xu I4 21 ((((3 : Int32) + (I4 21 1))).toInt.toNat) (I4 18 18)), L4) (some (.int 0)) (I5, L5)) : ∃ n, xr_X13_line n (0, [(0, .ref 18)], [], (I, L)) (some (.int 0)) (I5, L5) := by
  refine xe_go 1 (s' := (4, [(0, .ref 18)], [.long (7168366 : Int64), .ref 18], (I, L))) rfl ?_
  refine xe_vir (n := 2) (f := fx_X13_isWord) rfl (Nat.le_of_ble_eq_true rfl) (List.mem_of_getElem? (i := 0) rfl) (Nat.le_of_ble_eq_true rfl) c1 ?_
  refine xe_go 2 (s' := (112, [(0, .ref 18)], [.long (119165551928690 : Int64), .ref 18], (I1, L1))) rfl ?_
  refine xe_vir (n := 2) (f := fx_X13_isWord) rfl (Nat.le_of_ble_eq_true rfl) (List.mem_of_getElem? (i := 0) rfl) (Nat.le_of_ble_eq_true rfl) c2 ?_
  refine xe_bT 6 (A := (135, [(0, .ref 18)], [], (I2, L2))) (B := (129, [(0, .ref 18)], [], (I2, L2))) h1 rfl ?_
  refine xe_go 0 (s' := (136, [(0, .ref 18)], [.ref 18], (I2, L2))) rfl ?_
  refine xe_vir (n := 1) (f := fx_X13_next) rfl (Nat.le_of_ble_eq_true rfl) (List.mem_of_getElem? (i := 2) rfl) (Nat.le_of_ble_eq_true rfl) c3 ?_
  refine xe_go 5 (s' := (148, [(0, .ref 18)], [.int (I3 21 0), .int (6 : Int32), .ref 18], (I3, L3))) rfl ?_
  refine xe_vir (n := 3) (f := fx_X13_takesName) rfl (Nat.le_of_ble_eq_true rfl) (List.mem_of_getElem? (i := 5) rfl) (Nat.le_of_ble_eq_true rfl) c4 ?_
  refine xe_ar 11 (A := (173, [(0, .ref 18)], [], ((xu I4 21 ((((3 : Int32) + (I4 21 1))).toInt.toNat) (I4 18 18)), L4))) h2 rfl ?_
  refine xe_go 0 (s' := (174, [(0, .ref 18)], [.ref 18], ((xu I4 21 ((((3 : Int32) + (I4 21 1))).toInt.toNat) (I4 18 18)), L4))) rfl ?_
  refine xe_vir (n := 1) (f := fx_X13_readRungs) rfl (Nat.le_of_ble_eq_true rfl) (List.mem_of_getElem? (i := 6) rfl) (Nat.le_of_ble_eq_true rfl) c5 ?_
  exact xe_end rfl rfl rfl
set_option maxRecDepth 100000 in
theorem pt_X13_line_7 {I I1 I2 I3 I4 : Nat → Nat → Int32} {L L1 L2 L3 L4 : Nat → Nat → Int64} (c1 : fx_X13_isWord [.long (7168366 : Int64), .ref 18] (I, L) (some (.int 0)) (I1, L1)) (c2 : fx_X13_isWord [.long (119165551928690 : Int64), .ref 18] (I1, L1) (some (.int 1)) (I2, L2)) (h1 : (xe_cmp .ne (I2 21 1) (16 : Int32)) = true) (c3 : fx_X13_next [.ref 18] (I2, L2) none (I3, L3)) (c4 : fx_X13_takesName [.int (I3 21 0), .int (6 : Int32), .ref 18] (I3, L3) (some (.int 0)) (I4, L4)) : ∃ n, xr_X13_line n (0, [(0, .ref 18)], [], (I, L)) (some (.int (0 : Int32))) (I4, L4) := by
  refine xe_go 1 (s' := (4, [(0, .ref 18)], [.long (7168366 : Int64), .ref 18], (I, L))) rfl ?_
  refine xe_vir (n := 2) (f := fx_X13_isWord) rfl (Nat.le_of_ble_eq_true rfl) (List.mem_of_getElem? (i := 0) rfl) (Nat.le_of_ble_eq_true rfl) c1 ?_
  refine xe_go 2 (s' := (112, [(0, .ref 18)], [.long (119165551928690 : Int64), .ref 18], (I1, L1))) rfl ?_
  refine xe_vir (n := 2) (f := fx_X13_isWord) rfl (Nat.le_of_ble_eq_true rfl) (List.mem_of_getElem? (i := 0) rfl) (Nat.le_of_ble_eq_true rfl) c2 ?_
  refine xe_bT 6 (A := (135, [(0, .ref 18)], [], (I2, L2))) (B := (129, [(0, .ref 18)], [], (I2, L2))) h1 rfl ?_
  refine xe_go 0 (s' := (136, [(0, .ref 18)], [.ref 18], (I2, L2))) rfl ?_
  refine xe_vir (n := 1) (f := fx_X13_next) rfl (Nat.le_of_ble_eq_true rfl) (List.mem_of_getElem? (i := 2) rfl) (Nat.le_of_ble_eq_true rfl) c3 ?_
  refine xe_go 5 (s' := (148, [(0, .ref 18)], [.int (I3 21 0), .int (6 : Int32), .ref 18], (I3, L3))) rfl ?_
  refine xe_vir (n := 3) (f := fx_X13_takesName) rfl (Nat.le_of_ble_eq_true rfl) (List.mem_of_getElem? (i := 5) rfl) (Nat.le_of_ble_eq_true rfl) c4 ?_
  refine xe_go 1 (s' := (155, [(0, .ref 18)], [.int (0 : Int32)], (I4, L4))) rfl ?_
  exact xe_end rfl rfl rfl
set_option maxRecDepth 100000 in
theorem pt_X13_line_8 {I I1 I2 I3 : Nat → Nat → Int32} {L L1 L2 L3 : Nat → Nat → Int64} (c1 : fx_X13_isWord [.long (7168366 : Int64), .ref 18] (I, L) (some (.int 0)) (I1, L1)) (c2 : fx_X13_isWord [.long (119165551928690 : Int64), .ref 18] (I1, L1) (some (.int 1)) (I2, L2)) (h1 : (xe_cmp .ne (I2 21 1) (16 : Int32)) = false) (c3 : fx_X13_bad [.int (4 : Int32), .ref 18] (I2, L2) (some (.int 0)) (I3, L3)) : ∃ n, xr_X13_line n (0, [(0, .ref 18)], [], (I, L)) (some (.int 0)) (I3, L3) := by
  refine xe_go 1 (s' := (4, [(0, .ref 18)], [.long (7168366 : Int64), .ref 18], (I, L))) rfl ?_
  refine xe_vir (n := 2) (f := fx_X13_isWord) rfl (Nat.le_of_ble_eq_true rfl) (List.mem_of_getElem? (i := 0) rfl) (Nat.le_of_ble_eq_true rfl) c1 ?_
  refine xe_go 2 (s' := (112, [(0, .ref 18)], [.long (119165551928690 : Int64), .ref 18], (I1, L1))) rfl ?_
  refine xe_vir (n := 2) (f := fx_X13_isWord) rfl (Nat.le_of_ble_eq_true rfl) (List.mem_of_getElem? (i := 0) rfl) (Nat.le_of_ble_eq_true rfl) c2 ?_
  refine xe_bF 6 (A := (135, [(0, .ref 18)], [], (I2, L2))) (B := (129, [(0, .ref 18)], [], (I2, L2))) h1 rfl ?_
  refine xe_go 1 (s' := (131, [(0, .ref 18)], [.int (4 : Int32), .ref 18], (I2, L2))) rfl ?_
  refine xe_vir (n := 2) (f := fx_X13_bad) rfl (Nat.le_of_ble_eq_true rfl) (List.mem_of_getElem? (i := 1) rfl) (Nat.le_of_ble_eq_true rfl) c3 ?_
  exact xe_end rfl rfl rfl
set_option maxRecDepth 100000 in
theorem pt_X13_line_9 {I I1 I2 I3 I4 : Nat → Nat → Int32} {L L1 L2 L3 L4 : Nat → Nat → Int64} (c1 : fx_X13_isWord [.long (7168366 : Int64), .ref 18] (I, L) (some (.int 0)) (I1, L1)) (c2 : fx_X13_isWord [.long (119165551928690 : Int64), .ref 18] (I1, L1) (some (.int 0)) (I2, L2)) (c3 : fx_X13_isWord [.long (1684365940 : Int64), .ref 18] (I2, L2) (some (.int 1)) (I3, L3)) (c4 : fx_X13_readDebt [.ref 18] (I3, L3) (some (.int 1)) (I4, L4)) : ∃ n, xr_X13_line n (0, [(0, .ref 18)], [], (I, L)) (some (.int 1)) (I4, L4) := by
  refine xe_go 1 (s' := (4, [(0, .ref 18)], [.long (7168366 : Int64), .ref 18], (I, L))) rfl ?_
  refine xe_vir (n := 2) (f := fx_X13_isWord) rfl (Nat.le_of_ble_eq_true rfl) (List.mem_of_getElem? (i := 0) rfl) (Nat.le_of_ble_eq_true rfl) c1 ?_
  refine xe_go 2 (s' := (112, [(0, .ref 18)], [.long (119165551928690 : Int64), .ref 18], (I1, L1))) rfl ?_
  refine xe_vir (n := 2) (f := fx_X13_isWord) rfl (Nat.le_of_ble_eq_true rfl) (List.mem_of_getElem? (i := 0) rfl) (Nat.le_of_ble_eq_true rfl) c2 ?_
  refine xe_go 2 (s' := (182, [(0, .ref 18)], [.long (1684365940 : Int64), .ref 18], (I2, L2))) rfl ?_
  refine xe_vir (n := 2) (f := fx_X13_isWord) rfl (Nat.le_of_ble_eq_true rfl) (List.mem_of_getElem? (i := 0) rfl) (Nat.le_of_ble_eq_true rfl) c3 ?_
  refine xe_go 1 (s' := (189, [(0, .ref 18)], [.ref 18], (I3, L3))) rfl ?_
  refine xe_vir (n := 1) (f := fx_X13_readDebt) rfl (Nat.le_of_ble_eq_true rfl) (List.mem_of_getElem? (i := 7) rfl) (Nat.le_of_ble_eq_true rfl) c4 ?_
  exact xe_end rfl rfl rfl
set_option maxRecDepth 100000 in
theorem pt_X13_line_10 {I I1 I2 I3 I4 : Nat → Nat → Int32} {L L1 L2 L3 L4 : Nat → Nat → Int64} (c1 : fx_X13_isWord [.long (7168366 : Int64), .ref 18] (I, L) (some (.int 0)) (I1, L1)) (c2 : fx_X13_isWord [.long (119165551928690 : Int64), .ref 18] (I1, L1) (some (.int 0)) (I2, L2)) (c3 : fx_X13_isWord [.long (1684365940 : Int64), .ref 18] (I2, L2) (some (.int 1)) (I3, L3)) (c4 : fx_X13_readDebt [.ref 18] (I3, L3) (some (.int 0)) (I4, L4)) : ∃ n, xr_X13_line n (0, [(0, .ref 18)], [], (I, L)) (some (.int 0)) (I4, L4) := by
  refine xe_go 1 (s' := (4, [(0, .ref 18)], [.long (7168366 : Int64), .ref 18], (I, L))) rfl ?_
  refine xe_vir (n := 2) (f := fx_X13_isWord) rfl (Nat.le_of_ble_eq_true rfl) (List.mem_of_getElem? (i := 0) rfl) (Nat.le_of_ble_eq_true rfl) c1 ?_
  refine xe_go 2 (s' := (112, [(0, .ref 18)], [.long (119165551928690 : Int64), .ref 18], (I1, L1))) rfl ?_
  refine xe_vir (n := 2) (f := fx_X13_isWord) rfl (Nat.le_of_ble_eq_true rfl) (List.mem_of_getElem? (i := 0) rfl) (Nat.le_of_ble_eq_true rfl) c2 ?_
  refine xe_go 2 (s' := (182, [(0, .ref 18)], [.long (1684365940 : Int64), .ref 18], (I2, L2))) rfl ?_
  refine xe_vir (n := 2) (f := fx_X13_isWord) rfl (Nat.le_of_ble_eq_true rfl) (List.mem_of_getElem? (i := 0) rfl) (Nat.le_of_ble_eq_true rfl) c3 ?_
  refine xe_go 1 (s' := (189, [(0, .ref 18)], [.ref 18], (I3, L3))) rfl ?_
  refine xe_vir (n := 1) (f := fx_X13_readDebt) rfl (Nat.le_of_ble_eq_true rfl) (List.mem_of_getElem? (i := 7) rfl) (Nat.le_of_ble_eq_true rfl) c4 ?_
  exact xe_end rfl rfl rfl
set_option maxRecDepth 100000 in
theorem pt_X13_line_11 {I I1 I2 I3 I4 I5 I6 : Nat → Nat → Int32} {L L1 L2 L3 L4 L5 L6 : Nat → Nat → Int64} (c1 : fx_X13_isWord [.long (7168366 : Int64), .ref 18] (I, L) (some (.int 0)) (I1, L1)) (c2 : fx_X13_isWord [.long (119165551928690 : Int64), .ref 18] (I1, L1) (some (.int 0)) (I2, L2)) (c3 : fx_X13_isWord [.long (1684365940 : Int64), .ref 18] (I2, L2) (some (.int 0)) (I3, L3)) (c4 : fx_X13_isWord [.long (7499636 : Int64), .ref 18] (I3, L3) (some (.int 1)) (I4, L4)) (h1 : (xe_cmp .eq (I4 18 21) 0) = true) (c5 : fx_X13_next [.ref 18] ((xu I4 18 21 (1 : Int32)), L4) none (I5, L5)) (c6 : fx_X13_takes [.int (12 : Int32), .int (0 : Int32), .ref 18] (I5, L5) (some (.int 1)) (I6, L6)) : ∃ n, xr_X13_line n (0, [(0, .ref 18)], [], (I, L)) (some (.int (1 : Int32))) ((xu I6 21 2 (I6 18 18)), L6) := by
  refine xe_go 1 (s' := (4, [(0, .ref 18)], [.long (7168366 : Int64), .ref 18], (I, L))) rfl ?_
  refine xe_vir (n := 2) (f := fx_X13_isWord) rfl (Nat.le_of_ble_eq_true rfl) (List.mem_of_getElem? (i := 0) rfl) (Nat.le_of_ble_eq_true rfl) c1 ?_
  refine xe_go 2 (s' := (112, [(0, .ref 18)], [.long (119165551928690 : Int64), .ref 18], (I1, L1))) rfl ?_
  refine xe_vir (n := 2) (f := fx_X13_isWord) rfl (Nat.le_of_ble_eq_true rfl) (List.mem_of_getElem? (i := 0) rfl) (Nat.le_of_ble_eq_true rfl) c2 ?_
  refine xe_go 2 (s' := (182, [(0, .ref 18)], [.long (1684365940 : Int64), .ref 18], (I2, L2))) rfl ?_
  refine xe_vir (n := 2) (f := fx_X13_isWord) rfl (Nat.le_of_ble_eq_true rfl) (List.mem_of_getElem? (i := 0) rfl) (Nat.le_of_ble_eq_true rfl) c3 ?_
  refine xe_go 2 (s' := (197, [(0, .ref 18)], [.long (7499636 : Int64), .ref 18], (I3, L3))) rfl ?_
  refine xe_vir (n := 2) (f := fx_X13_isWord) rfl (Nat.le_of_ble_eq_true rfl) (List.mem_of_getElem? (i := 0) rfl) (Nat.le_of_ble_eq_true rfl) c4 ?_
  refine xe_bT 3 (A := (222, [(0, .ref 18)], [], (I4, L4))) (B := (216, [(0, .ref 18)], [], (I4, L4))) h1 rfl ?_
  refine xe_go 3 (s' := (228, [(0, .ref 18)], [.ref 18], ((xu I4 18 21 (1 : Int32)), L4))) rfl ?_
  refine xe_vir (n := 1) (f := fx_X13_next) rfl (Nat.le_of_ble_eq_true rfl) (List.mem_of_getElem? (i := 2) rfl) (Nat.le_of_ble_eq_true rfl) c5 ?_
  refine xe_go 2 (s' := (235, [(0, .ref 18)], [.int (12 : Int32), .int (0 : Int32), .ref 18], (I5, L5))) rfl ?_
  refine xe_vir (n := 3) (f := fx_X13_takes) rfl (Nat.le_of_ble_eq_true rfl) (List.mem_of_getElem? (i := 8) rfl) (Nat.le_of_ble_eq_true rfl) c6 ?_
  refine xe_go 7 (s' := (254, [(0, .ref 18)], [.int (1 : Int32)], ((xu I6 21 2 (I6 18 18)), L6))) rfl ?_
  exact xe_end rfl rfl rfl
set_option maxRecDepth 100000 in
theorem pt_X13_line_12 {I I1 I2 I3 I4 I5 I6 : Nat → Nat → Int32} {L L1 L2 L3 L4 L5 L6 : Nat → Nat → Int64} (c1 : fx_X13_isWord [.long (7168366 : Int64), .ref 18] (I, L) (some (.int 0)) (I1, L1)) (c2 : fx_X13_isWord [.long (119165551928690 : Int64), .ref 18] (I1, L1) (some (.int 0)) (I2, L2)) (c3 : fx_X13_isWord [.long (1684365940 : Int64), .ref 18] (I2, L2) (some (.int 0)) (I3, L3)) (c4 : fx_X13_isWord [.long (7499636 : Int64), .ref 18] (I3, L3) (some (.int 1)) (I4, L4)) (h1 : (xe_cmp .eq (I4 18 21) 0) = true) (c5 : fx_X13_next [.ref 18] ((xu I4 18 21 (1 : Int32)), L4) none (I5, L5)) (c6 : fx_X13_takes [.int (12 : Int32), .int (0 : Int32), .ref 18] (I5, L5) (some (.int 0)) (I6, L6)) : ∃ n, xr_X13_line n (0, [(0, .ref 18)], [], (I, L)) (some (.int (0 : Int32))) (I6, L6) := by
  refine xe_go 1 (s' := (4, [(0, .ref 18)], [.long (7168366 : Int64), .ref 18], (I, L))) rfl ?_
  refine xe_vir (n := 2) (f := fx_X13_isWord) rfl (Nat.le_of_ble_eq_true rfl) (List.mem_of_getElem? (i := 0) rfl) (Nat.le_of_ble_eq_true rfl) c1 ?_
  refine xe_go 2 (s' := (112, [(0, .ref 18)], [.long (119165551928690 : Int64), .ref 18], (I1, L1))) rfl ?_
  refine xe_vir (n := 2) (f := fx_X13_isWord) rfl (Nat.le_of_ble_eq_true rfl) (List.mem_of_getElem? (i := 0) rfl) (Nat.le_of_ble_eq_true rfl) c2 ?_
  refine xe_go 2 (s' := (182, [(0, .ref 18)], [.long (1684365940 : Int64), .ref 18], (I2, L2))) rfl ?_
  refine xe_vir (n := 2) (f := fx_X13_isWord) rfl (Nat.le_of_ble_eq_true rfl) (List.mem_of_getElem? (i := 0) rfl) (Nat.le_of_ble_eq_true rfl) c3 ?_
  refine xe_go 2 (s' := (197, [(0, .ref 18)], [.long (7499636 : Int64), .ref 18], (I3, L3))) rfl ?_
  refine xe_vir (n := 2) (f := fx_X13_isWord) rfl (Nat.le_of_ble_eq_true rfl) (List.mem_of_getElem? (i := 0) rfl) (Nat.le_of_ble_eq_true rfl) c4 ?_
  refine xe_bT 3 (A := (222, [(0, .ref 18)], [], (I4, L4))) (B := (216, [(0, .ref 18)], [], (I4, L4))) h1 rfl ?_
  refine xe_go 3 (s' := (228, [(0, .ref 18)], [.ref 18], ((xu I4 18 21 (1 : Int32)), L4))) rfl ?_
  refine xe_vir (n := 1) (f := fx_X13_next) rfl (Nat.le_of_ble_eq_true rfl) (List.mem_of_getElem? (i := 2) rfl) (Nat.le_of_ble_eq_true rfl) c5 ?_
  refine xe_go 2 (s' := (235, [(0, .ref 18)], [.int (12 : Int32), .int (0 : Int32), .ref 18], (I5, L5))) rfl ?_
  refine xe_vir (n := 3) (f := fx_X13_takes) rfl (Nat.le_of_ble_eq_true rfl) (List.mem_of_getElem? (i := 8) rfl) (Nat.le_of_ble_eq_true rfl) c6 ?_
  refine xe_go 1 (s' := (242, [(0, .ref 18)], [.int (0 : Int32)], (I6, L6))) rfl ?_
  exact xe_end rfl rfl rfl
set_option maxRecDepth 100000 in
theorem pt_X13_line_13 {I I1 I2 I3 I4 I5 : Nat → Nat → Int32} {L L1 L2 L3 L4 L5 : Nat → Nat → Int64} (c1 : fx_X13_isWord [.long (7168366 : Int64), .ref 18] (I, L) (some (.int 0)) (I1, L1)) (c2 : fx_X13_isWord [.long (119165551928690 : Int64), .ref 18] (I1, L1) (some (.int 0)) (I2, L2)) (c3 : fx_X13_isWord [.long (1684365940 : Int64), .ref 18] (I2, L2) (some (.int 0)) (I3, L3)) (c4 : fx_X13_isWord [.long (7499636 : Int64), .ref 18] (I3, L3) (some (.int 1)) (I4, L4)) (h1 : (xe_cmp .eq (I4 18 21) 0) = false) (c5 : fx_X13_bad [.int (3 : Int32), .ref 18] (I4, L4) (some (.int 0)) (I5, L5)) : ∃ n, xr_X13_line n (0, [(0, .ref 18)], [], (I, L)) (some (.int 0)) (I5, L5) := by
  refine xe_go 1 (s' := (4, [(0, .ref 18)], [.long (7168366 : Int64), .ref 18], (I, L))) rfl ?_
  refine xe_vir (n := 2) (f := fx_X13_isWord) rfl (Nat.le_of_ble_eq_true rfl) (List.mem_of_getElem? (i := 0) rfl) (Nat.le_of_ble_eq_true rfl) c1 ?_
  refine xe_go 2 (s' := (112, [(0, .ref 18)], [.long (119165551928690 : Int64), .ref 18], (I1, L1))) rfl ?_
  refine xe_vir (n := 2) (f := fx_X13_isWord) rfl (Nat.le_of_ble_eq_true rfl) (List.mem_of_getElem? (i := 0) rfl) (Nat.le_of_ble_eq_true rfl) c2 ?_
  refine xe_go 2 (s' := (182, [(0, .ref 18)], [.long (1684365940 : Int64), .ref 18], (I2, L2))) rfl ?_
  refine xe_vir (n := 2) (f := fx_X13_isWord) rfl (Nat.le_of_ble_eq_true rfl) (List.mem_of_getElem? (i := 0) rfl) (Nat.le_of_ble_eq_true rfl) c3 ?_
  refine xe_go 2 (s' := (197, [(0, .ref 18)], [.long (7499636 : Int64), .ref 18], (I3, L3))) rfl ?_
  refine xe_vir (n := 2) (f := fx_X13_isWord) rfl (Nat.le_of_ble_eq_true rfl) (List.mem_of_getElem? (i := 0) rfl) (Nat.le_of_ble_eq_true rfl) c4 ?_
  refine xe_bF 3 (A := (222, [(0, .ref 18)], [], (I4, L4))) (B := (216, [(0, .ref 18)], [], (I4, L4))) h1 rfl ?_
  refine xe_go 1 (s' := (218, [(0, .ref 18)], [.int (3 : Int32), .ref 18], (I4, L4))) rfl ?_
  refine xe_vir (n := 2) (f := fx_X13_bad) rfl (Nat.le_of_ble_eq_true rfl) (List.mem_of_getElem? (i := 1) rfl) (Nat.le_of_ble_eq_true rfl) c5 ?_
  exact xe_end rfl rfl rfl
set_option maxRecDepth 100000 in
theorem pt_X13_line_14 {I I1 I2 I3 I4 I5 : Nat → Nat → Int32} {L L1 L2 L3 L4 L5 : Nat → Nat → Int64} (c1 : fx_X13_isWord [.long (7168366 : Int64), .ref 18] (I, L) (some (.int 0)) (I1, L1)) (c2 : fx_X13_isWord [.long (119165551928690 : Int64), .ref 18] (I1, L1) (some (.int 0)) (I2, L2)) (c3 : fx_X13_isWord [.long (1684365940 : Int64), .ref 18] (I2, L2) (some (.int 0)) (I3, L3)) (c4 : fx_X13_isWord [.long (7499636 : Int64), .ref 18] (I3, L3) (some (.int 0)) (I4, L4)) (c5 : fx_X13_bad [.int (1 : Int32), .ref 18] (I4, L4) (some (.int 0)) (I5, L5)) : ∃ n, xr_X13_line n (0, [(0, .ref 18)], [], (I, L)) (some (.int 0)) (I5, L5) := by
  refine xe_go 1 (s' := (4, [(0, .ref 18)], [.long (7168366 : Int64), .ref 18], (I, L))) rfl ?_
  refine xe_vir (n := 2) (f := fx_X13_isWord) rfl (Nat.le_of_ble_eq_true rfl) (List.mem_of_getElem? (i := 0) rfl) (Nat.le_of_ble_eq_true rfl) c1 ?_
  refine xe_go 2 (s' := (112, [(0, .ref 18)], [.long (119165551928690 : Int64), .ref 18], (I1, L1))) rfl ?_
  refine xe_vir (n := 2) (f := fx_X13_isWord) rfl (Nat.le_of_ble_eq_true rfl) (List.mem_of_getElem? (i := 0) rfl) (Nat.le_of_ble_eq_true rfl) c2 ?_
  refine xe_go 2 (s' := (182, [(0, .ref 18)], [.long (1684365940 : Int64), .ref 18], (I2, L2))) rfl ?_
  refine xe_vir (n := 2) (f := fx_X13_isWord) rfl (Nat.le_of_ble_eq_true rfl) (List.mem_of_getElem? (i := 0) rfl) (Nat.le_of_ble_eq_true rfl) c3 ?_
  refine xe_go 2 (s' := (197, [(0, .ref 18)], [.long (7499636 : Int64), .ref 18], (I3, L3))) rfl ?_
  refine xe_vir (n := 2) (f := fx_X13_isWord) rfl (Nat.le_of_ble_eq_true rfl) (List.mem_of_getElem? (i := 0) rfl) (Nat.le_of_ble_eq_true rfl) c4 ?_
  refine xe_go 2 (s' := (205, [(0, .ref 18)], [.int (1 : Int32), .ref 18], (I4, L4))) rfl ?_
  refine xe_vir (n := 2) (f := fx_X13_bad) rfl (Nat.le_of_ble_eq_true rfl) (List.mem_of_getElem? (i := 1) rfl) (Nat.le_of_ble_eq_true rfl) c5 ?_
  exact xe_end rfl rfl rfl
def xi_X13_taken : List (Nat × Nat × Instr) := [(0, 1, .aload_n 0), (1, 1, .aload_n 0), (2, 3, .getfield 7), (5, 3, .putfield 18), (8, 1, .aload_n 0), (9, 1, .iconst 0), (10, 3, .putfield 7), (13, 1, .aload_n 0), (14, 1, .iconst 0), (15, 3, .putfield 21), (18, 1, .aload_n 0), (19, 1, .iload_n 1), (20, 3, .putfield 24), (23, 1, .return_)]
def xg_X13_taken : zf_ft := [(7, 11, 2, .inl (0, 0))]
def xp_X13_taken : zf_ft := [(18, 11, 3, .inl ((-2147483648), 2147483647)), (7, 11, 2, .inl ((-2147483648), 2147483647)), (21, 11, 4, .inl ((-2147483648), 2147483647)), (24, 11, 5, .inl ((-2147483648), 2147483647))]
def xv_X13_taken : List (Nat × Nat × xe_F) := []
def xt_X13_taken : List (Nat × Nat × xe_F) := []
abbrev xr_X13_taken := xe_run xGT xSC xRF 2 xg_X13_taken xp_X13_taken [] [] xv_X13_taken xt_X13_taken xi_X13_taken
def fx_X13_taken : xe_F := fun us hp v hp' => (us.map fun v => v.category).sum ≤ 2 ∧ xe_rt none v ∧ (∃ ar, us = ar ++ [.ref 18]) ∧ ∃ n, xr_X13_taken n (0, xe_ag 0 us.reverse, [], hp) v hp'
theorem mk_X13_taken {a1 : Int32} {hp hp' : xe_H} {v : Option Value} (hr : xe_rt none v) (h : ∃ n, xr_X13_taken n (0, [(0, .ref 18), (1, .int a1)], [], hp) v hp') : fx_X13_taken [.int a1, .ref 18] hp v hp' := ⟨Nat.le_of_ble_eq_true rfl, hr, ⟨[.int a1], rfl⟩, h⟩
theorem hx_X13_taken : ∀ us hp v hp', fx_X13_taken us hp v hp' → (us.map fun v => v.category).sum ≤ 2 ∧ xe_rt none v ∧ ∃ n, xr_X13_taken n (0, xe_ag 0 us.reverse, [], hp) v hp' := fun us hp v hp' h => ⟨h.1, h.2.1, h.2.2.2⟩
theorem fr_X13_taken : ∀ us hp v hp', fx_X13_taken us hp v hp' → ∃ ar, us = ar ++ [.ref 18] := fun us hp v hp' h => h.2.2.1
set_option maxRecDepth 100000 in
set_option maxHeartbeats 4000000 in
theorem kx_X13_taken (l : Launch) (D : va_G) (k : Nat → ClassId) (B0 : Nat) (ad : Nat → Nat) (al sw : Nat) : xe_Con l yX13_taken (zw yX13_taken cX13_taken 2 none) ({ frames := 0, cells := 0, slots := 0, locals := 0 }) D k ad (zEx B0 ad al sw) xGT xSC xRF fx_X13_taken := by
  have hEx := zEx_ok B0 ad al sw
  refine xe_mk (cc := cX13_taken) (nL := 2) (ret := none) (fg := xg_X13_taken) (fp := xp_X13_taken) (sg := []) (lc := []) (cv := xv_X13_taken) (cs := xt_X13_taken) (ins := xi_X13_taken) (by decide) rfl hEx (by decide +kernel) hx_X13_taken ?_
  intro p e s m args below meth c Q Sg w0 A θ S hK hE hAB hA hth
  refine ⟨?_, ?_, ?_, ?_, ?_, ?_⟩
  · exact zf_ac ((fun H locs ws a q0 fs v rest pc ls hP he hv hdg kk => va_get (D := D) (ci := 11) (C := RX13) (T := TX13) (N := 47) (own := RX13) S.1 S.2.1 S.2.2.2.2 (zg_in inW_X13) S.2.2.2.1 hK hP q0 he rfl 2 (by decide) (S.2.2.2.2 (.fieldLink RX13 7 "RungMoneyModel" "length" "I") (List.mem_cons_of_mem _ zw_1350)) (fun _ h9 => h9) hv hdg kk)) zf_an
  · exact zf_ac ((fun H locs ws a q0 fs v rest pc ls hP hD hS he hl hv hdg kk => by obtain ⟨x, rfl, h1, h2⟩ := hv; exact va_put (D := D) (ci := 11) (v := .int x) (ty := .int) (C := RX13) (T := TX13) (N := 47) (own := RX13) S.1 S.2.1 S.2.2.2.2 (zg_in inW_X13) tyX13 tyX13_ok nmX13 S.2.2.2.1 hK hP hD hS q0 he rfl 3 (by decide) (S.2.2.2.2 (.fieldLink RX13 18 "RungMoneyModel" "size" "I") (List.mem_cons_of_mem _ zw_1351)) (fun _ h9 => h9) rfl (by decide +kernel) rfl rfl hl hdg kk)) (zf_ac ((fun H locs ws a q0 fs v rest pc ls hP hD hS he hl hv hdg kk => by obtain ⟨x, rfl, h1, h2⟩ := hv; exact va_put (D := D) (ci := 11) (v := .int x) (ty := .int) (C := RX13) (T := TX13) (N := 47) (own := RX13) S.1 S.2.1 S.2.2.2.2 (zg_in inW_X13) tyX13 tyX13_ok nmX13 S.2.2.2.1 hK hP hD hS q0 he rfl 2 (by decide) (S.2.2.2.2 (.fieldLink RX13 7 "RungMoneyModel" "length" "I") (List.mem_cons_of_mem _ zw_1350)) (fun _ h9 => h9) rfl (by decide +kernel) rfl rfl hl hdg kk)) (zf_ac ((fun H locs ws a q0 fs v rest pc ls hP hD hS he hl hv hdg kk => by obtain ⟨x, rfl, h1, h2⟩ := hv; exact va_put (D := D) (ci := 11) (v := .int x) (ty := .int) (C := RX13) (T := TX13) (N := 47) (own := RX13) S.1 S.2.1 S.2.2.2.2 (zg_in inW_X13) tyX13 tyX13_ok nmX13 S.2.2.2.1 hK hP hD hS q0 he rfl 4 (by decide) (S.2.2.2.2 (.fieldLink RX13 21 "RungMoneyModel" "p" "I") (List.mem_cons_of_mem _ zw_1352)) (fun _ h9 => h9) rfl (by decide +kernel) rfl rfl hl hdg kk)) (zf_ac ((fun H locs ws a q0 fs v rest pc ls hP hD hS he hl hv hdg kk => by obtain ⟨x, rfl, h1, h2⟩ := hv; exact va_put (D := D) (ci := 11) (v := .int x) (ty := .int) (C := RX13) (T := TX13) (N := 47) (own := RX13) S.1 S.2.1 S.2.2.2.2 (zg_in inW_X13) tyX13 tyX13_ok nmX13 S.2.2.2.1 hK hP hD hS q0 he rfl 5 (by decide) (S.2.2.2.2 (.fieldLink RX13 24 "RungMoneyModel" "limit" "I") (List.mem_cons_of_mem _ zw_1353)) (fun _ h9 => h9) rfl (by decide +kernel) rfl rfl hl hdg kk)) zf_an)))
  · exact xe_n2
  · exact xe_n3
  · exact xe_n4
  · exact xe_n4
set_option maxRecDepth 100000 in
theorem pt_X13_taken_0 {a1 : Int32} {I : Nat → Nat → Int32} {L : Nat → Nat → Int64}  : ∃ n, xr_X13_taken n (0, [(0, .ref 18), (1, .int a1)], [], (I, L)) none ((xu (xu (xu (xu I 18 3 (I 18 2)) 18 2 (0 : Int32)) 18 4 (0 : Int32)) 18 5 a1), L) := by
  refine xe_go 12 (s' := (23, [(0, .ref 18), (1, .int a1)], [], ((xu (xu (xu (xu I 18 3 (I 18 2)) 18 2 (0 : Int32)) 18 4 (0 : Int32)) 18 5 a1), L))) rfl ?_
  exact xe_end rfl rfl rfl

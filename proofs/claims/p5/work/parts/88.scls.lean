/-! ===== the class's sentence: tables, contracts, paths ===== -/
theorem xe_crVK {p : Program} {l : Launch} {e : Env} {R : Room} {s : State} {m : MethodId} {args : Array Value} {below : List Frame} {meth : Method} {c : Code} {cells slots : Nat} {Q : State → Prop} {cc bytes : ByteArray} {nL maxL index B0 al sw : Nat} {D : va_G} {A : Nat → Prop} {k : Nat → ClassId} {ad : Nat → Nat} {own : String} {y : MethodName} {wsY Ts : List Cond} {rm : Room} {ret : Option FieldType} {GT : List zf_G} {SC : List Nat} {RF : List (Nat × Nat × Nat)} {f : xe_F} {Sg : Nat → Option Nat} {θ : Nat → Nat} {w0 : va_W}
    (S : CallFix p m c cc nL s args Ts own) (hE : zEx B0 ad al sw Sg w0 s) (hAB : ∀ q, A q → B0 ≤ q) (hA : ∀ q, s.heap.size ≤ q → A q) (hK : va_K D vwCl (tyz k) s) (hth : xe_th ad Sg θ)
    (hM : xe_Con l y wsY rm D k ad (zEx B0 ad al sw) GT SC RF f) (cw : CallW R s args own RX2 index y bytes maxL ret wsY rm 0 0 0) (hf : cells + 0 ≤ R.cells ∧ slots + 0 ≤ R.slots) (hrec : ∀ us hp v hp', f us hp v hp' → ∃ g, us = [.ref g] ∧ Nat.beq (xe_k g) 128 = true) :
    xe_CR p l e R s m args below meth c cells slots Q cc D A s.heap Sg k GT SC RF θ nL (.invokevirtual index) 1 f := by
  intro H locs ws us vs rest pc ls hp v hp' hP hD hS ht hcc hus hn hfv hdg hls hcat kk
  have hEx := zEx_ok B0 ad al sw
  obtain ⟨g, rfl, hg⟩ := hrec us hp _ _ hfv
  have hMet := hM Sg ws θ _ vs H.size hp v hp' hth ht hcc hus hfv
  obtain ⟨_, st0, rfl, ⟨rfl, o0⟩, hs0⟩ := zf_f2_c hus
  cases xe_nil hs0
  have o0 : Sg (θ g) = some (xe_k g) := o0
  rw [Nat.eq_of_beq_eq_true hg] at o0
  obtain ⟨i, hi, hai⟩ := hE.2.2.1.1 _ o0
  have hrec := va_recvE (hE.2.2.2.1.narrow hAB) hi hS
  rw [← hai] at hrec
  have hrun := va_runV (rest := rest) (locs := locs) (e := e) (below := below) (meth := meth) (cells := cells) (slots := slots) (As := []) (b := θ g) S hMet cw ⟨zf_blind (hEx.1 Sg ws), hrec, zf_pass hEx hE hAB hK hP hD hS⟩ (g := F0 m pc ls (.ref (θ g) :: rest)) rfl rfl hls rfl (lv_room (rest := rest) (ls := ls) (pc := pc) (m := m) hcat) hdg hf
  have hFc := va_free hD hS hA (List.range ws.length) (zf_whole ws)
  refine zf_callg hrun hS (fun q _ h => hFc q h) hFc (fun v' t H1 locs1 ht1 hvm hB hz hk1 hS1 => ?_)
  obtain ⟨rfl, z0, ws', z1, z2, z3, z4, z5, z6⟩ := hB
  rw [ht1] at z1
  obtain ⟨hP1, hD1⟩ := zf_back hP hD hS hA hk1 z1 z3
  exact kk ws' H1 locs1 z4 z5 z0 hP1 hD1 hS1 z6
def xi_X2_isPlain : List (Nat × Nat × Instr) := [(0, 1, .aload_n 0), (1, 3, .getstatic 54), (4, 3, .if_acmp .eq 17), (7, 1, .aload_n 0), (8, 3, .getstatic 57), (11, 3, .if_acmp .eq 10), (14, 1, .aload_n 0), (15, 3, .getstatic 60), (18, 3, .if_acmp .ne 7), (21, 1, .iconst 1), (22, 3, .goto 4), (25, 1, .iconst 0), (26, 1, .ireturn)]
def xg_X2_isPlain : zf_ft := []
def xp_X2_isPlain : zf_ft := []
def xv_X2_isPlain : List (Nat × Nat × xe_F) := []
def xt_X2_isPlain : List (Nat × Nat × xe_F) := []
abbrev xr_X2_isPlain := xe_run xGT xSC xRF 1 xg_X2_isPlain xp_X2_isPlain [(54, 216), (57, 217), (60, 218)] [] (xv_X2_isPlain) xt_X2_isPlain xi_X2_isPlain
def fx_X2_isPlain : xe_F := fun us hp v hp' => (us.map fun v => v.category).sum ≤ 1 ∧ xe_rt (some .boolean) v ∧ (∃ g, us = [.ref g] ∧ Nat.beq (xe_k g) 128 = true) ∧ ∃ n, xr_X2_isPlain n (0, xe_ag 0 us.reverse, [], hp) v hp'
theorem mk_X2_isPlain {k0 : Nat} {hp hp' : xe_H} {v : Option Value} (hk : Nat.beq (xe_k k0) 128 = true) (hr : xe_rt (some .boolean) v) (h : ∃ n, xr_X2_isPlain n (0, [(0, .ref k0)], [], hp) v hp') : fx_X2_isPlain [.ref k0] hp v hp' := ⟨Nat.le_of_ble_eq_true rfl, hr, ⟨_, rfl, hk⟩, h⟩
theorem hx_X2_isPlain : ∀ us hp v hp', fx_X2_isPlain us hp v hp' → (us.map fun v => v.category).sum ≤ 1 ∧ xe_rt (some .boolean) v ∧ ∃ n, xr_X2_isPlain n (0, xe_ag 0 us.reverse, [], hp) v hp' := fun us hp v hp' h => ⟨h.1, h.2.1, h.2.2.2⟩
theorem fr_X2_isPlain : ∀ us hp v hp', fx_X2_isPlain us hp v hp' → ∃ g, us = [.ref g] ∧ Nat.beq (xe_k g) 128 = true := fun us hp v hp' h => h.2.2.1
set_option maxRecDepth 100000 in
set_option maxHeartbeats 4000000 in
theorem kx_X2_isPlain (l : Launch) (D : va_G) (k : Nat → ClassId) (B0 : Nat) (ad : Nat → Nat) (al sw : Nat) : xe_Con l yX2_isPlain (zw yX2_isPlain cX2_isPlain 1 (some .boolean)) ({ frames := 0, cells := 0, slots := 0, locals := 0 }) D k ad (zEx B0 ad al sw) xGT xSC xRF (fx_X2_isPlain) := by
  have hEx := zEx_ok B0 ad al sw
  refine xe_mk (cc := cX2_isPlain) (nL := 1) (ret := (some .boolean)) (fg := xg_X2_isPlain) (fp := xp_X2_isPlain) (sg := [(54, 216), (57, 217), (60, 218)]) (lc := []) (cv := xv_X2_isPlain) (cs := xt_X2_isPlain) (ins := xi_X2_isPlain) (by decide) rfl hEx (by decide +kernel) hx_X2_isPlain ?_
  intro p e s m args below meth c Q Sg w0 A θ S hK hE hAB hA hth
  refine ⟨?_, ?_, ?_, ?_, ?_, ?_⟩
  · exact zf_an
  · exact zf_an
  · exact xe_a2 ((fun H locs rest pc ls hS hdg kk => va_gets (C := RX2) (n := "GONE") (d := zkD) (v := .ref (θ 216)) S.1 S.2.1 (by rw [(hth.2 16 (by decide)).1]; exact (hE.2.2.2.1.1 16 (by decide)).1.narrow hAB) hS S.2.2.2.1 (S.2.2.2.2 (.fieldLink RX2 54 "RungMoney$Key" "GONE" "LRungMoney$Key;") (List.mem_cons_of_mem _ zw_1130)) (fun _ h9 => h9) hdg (kk (by show Sg (θ 216) = some 128; rw [(hth.2 16 (by decide)).1]; exact (hth.2 16 (by decide)).2)))) (xe_a2 ((fun H locs rest pc ls hS hdg kk => va_gets (C := RX2) (n := "BEARS") (d := zkD) (v := .ref (θ 217)) S.1 S.2.1 (by rw [(hth.2 17 (by decide)).1]; exact (hE.2.2.2.1.1 17 (by decide)).1.narrow hAB) hS S.2.2.2.1 (S.2.2.2.2 (.fieldLink RX2 57 "RungMoney$Key" "BEARS" "LRungMoney$Key;") (List.mem_cons_of_mem _ zw_1132)) (fun _ h9 => h9) hdg (kk (by show Sg (θ 217) = some 128; rw [(hth.2 17 (by decide)).1]; exact (hth.2 17 (by decide)).2)))) (xe_a2 ((fun H locs rest pc ls hS hdg kk => va_gets (C := RX2) (n := "FALSE") (d := zkD) (v := .ref (θ 218)) S.1 S.2.1 (by rw [(hth.2 18 (by decide)).1]; exact (hE.2.2.2.1.1 18 (by decide)).1.narrow hAB) hS S.2.2.2.1 (S.2.2.2.2 (.fieldLink RX2 60 "RungMoney$Key" "FALSE" "LRungMoney$Key;") (List.mem_cons_of_mem _ zw_1134)) (fun _ h9 => h9) hdg (kk (by show Sg (θ 218) = some 128; rw [(hth.2 18 (by decide)).1]; exact (hth.2 18 (by decide)).2)))) xe_n2))
  · exact xe_n3
  · exact xe_n4
  · exact xe_n4
set_option maxRecDepth 100000 in
theorem pt_X2_isPlain_0 {k0 : Nat} {I : Nat → Nat → Int32} {L : Nat → Nat → Int64} (h1 : (Nat.beq k0 216) = true) : ∃ n, xr_X2_isPlain n (0, [(0, .ref k0)], [], (I, L)) (some (.int (1 : Int32))) (I, L) := by
  refine xe_bT 2 (A := (21, [(0, .ref k0)], [], (I, L))) (B := (7, [(0, .ref k0)], [], (I, L))) h1 rfl ?_
  refine xe_go 1 (s' := (26, [(0, .ref k0)], [.int (1 : Int32)], (I, L))) rfl ?_
  exact xe_end rfl rfl rfl
set_option maxRecDepth 100000 in
theorem pt_X2_isPlain_1 {k0 : Nat} {I : Nat → Nat → Int32} {L : Nat → Nat → Int64} (h1 : (Nat.beq k0 216) = false) (h2 : (Nat.beq k0 217) = true) : ∃ n, xr_X2_isPlain n (0, [(0, .ref k0)], [], (I, L)) (some (.int (1 : Int32))) (I, L) := by
  refine xe_bF 2 (A := (21, [(0, .ref k0)], [], (I, L))) (B := (7, [(0, .ref k0)], [], (I, L))) h1 rfl ?_
  refine xe_bT 2 (A := (21, [(0, .ref k0)], [], (I, L))) (B := (14, [(0, .ref k0)], [], (I, L))) h2 rfl ?_
  refine xe_go 1 (s' := (26, [(0, .ref k0)], [.int (1 : Int32)], (I, L))) rfl ?_
  exact xe_end rfl rfl rfl
set_option maxRecDepth 100000 in
theorem pt_X2_isPlain_2 {k0 : Nat} {I : Nat → Nat → Int32} {L : Nat → Nat → Int64} (h1 : (Nat.beq k0 216) = false) (h2 : (Nat.beq k0 217) = false) (h3 : (Nat.beq k0 218) = true) : ∃ n, xr_X2_isPlain n (0, [(0, .ref k0)], [], (I, L)) (some (.int (1 : Int32))) (I, L) := by
  refine xe_bF 2 (A := (21, [(0, .ref k0)], [], (I, L))) (B := (7, [(0, .ref k0)], [], (I, L))) h1 rfl ?_
  refine xe_bF 2 (A := (21, [(0, .ref k0)], [], (I, L))) (B := (14, [(0, .ref k0)], [], (I, L))) h2 rfl ?_
  refine xe_bT 2 (A := (21, [(0, .ref k0)], [], (I, L))) (B := (25, [(0, .ref k0)], [], (I, L))) h3 rfl ?_
  refine xe_go 1 (s' := (26, [(0, .ref k0)], [.int (1 : Int32)], (I, L))) rfl ?_
  exact xe_end rfl rfl rfl
set_option maxRecDepth 100000 in
theorem pt_X2_isPlain_3 {k0 : Nat} {I : Nat → Nat → Int32} {L : Nat → Nat → Int64} (h1 : (Nat.beq k0 216) = false) (h2 : (Nat.beq k0 217) = false) (h3 : (Nat.beq k0 218) = false) : ∃ n, xr_X2_isPlain n (0, [(0, .ref k0)], [], (I, L)) (some (.int (0 : Int32))) (I, L) := by
  refine xe_bF 2 (A := (21, [(0, .ref k0)], [], (I, L))) (B := (7, [(0, .ref k0)], [], (I, L))) h1 rfl ?_
  refine xe_bF 2 (A := (21, [(0, .ref k0)], [], (I, L))) (B := (14, [(0, .ref k0)], [], (I, L))) h2 rfl ?_
  refine xe_bF 2 (A := (21, [(0, .ref k0)], [], (I, L))) (B := (25, [(0, .ref k0)], [], (I, L))) h3 rfl ?_
  refine xe_go 0 (s' := (26, [(0, .ref k0)], [.int (0 : Int32)], (I, L))) rfl ?_
  exact xe_end rfl rfl rfl
def xi_X2_isMeasure : List (Nat × Nat × Instr) := [(0, 1, .aload_n 0), (1, 3, .getstatic 66), (4, 3, .if_acmp .eq 24), (7, 1, .aload_n 0), (8, 3, .getstatic 69), (11, 3, .if_acmp .eq 17), (14, 1, .aload_n 0), (15, 3, .getstatic 72), (18, 3, .if_acmp .eq 10), (21, 1, .aload_n 0), (22, 3, .getstatic 75), (25, 3, .if_acmp .ne 7), (28, 1, .iconst 1), (29, 3, .goto 4), (32, 1, .iconst 0), (33, 1, .ireturn)]
def xg_X2_isMeasure : zf_ft := []
def xp_X2_isMeasure : zf_ft := []
def xv_X2_isMeasure : List (Nat × Nat × xe_F) := []
def xt_X2_isMeasure : List (Nat × Nat × xe_F) := []
abbrev xr_X2_isMeasure := xe_run xGT xSC xRF 1 xg_X2_isMeasure xp_X2_isMeasure [(66, 220), (69, 221), (72, 222), (75, 223)] [] (xv_X2_isMeasure) xt_X2_isMeasure xi_X2_isMeasure
def fx_X2_isMeasure : xe_F := fun us hp v hp' => (us.map fun v => v.category).sum ≤ 1 ∧ xe_rt (some .boolean) v ∧ (∃ g, us = [.ref g] ∧ Nat.beq (xe_k g) 128 = true) ∧ ∃ n, xr_X2_isMeasure n (0, xe_ag 0 us.reverse, [], hp) v hp'
theorem mk_X2_isMeasure {k0 : Nat} {hp hp' : xe_H} {v : Option Value} (hk : Nat.beq (xe_k k0) 128 = true) (hr : xe_rt (some .boolean) v) (h : ∃ n, xr_X2_isMeasure n (0, [(0, .ref k0)], [], hp) v hp') : fx_X2_isMeasure [.ref k0] hp v hp' := ⟨Nat.le_of_ble_eq_true rfl, hr, ⟨_, rfl, hk⟩, h⟩
theorem hx_X2_isMeasure : ∀ us hp v hp', fx_X2_isMeasure us hp v hp' → (us.map fun v => v.category).sum ≤ 1 ∧ xe_rt (some .boolean) v ∧ ∃ n, xr_X2_isMeasure n (0, xe_ag 0 us.reverse, [], hp) v hp' := fun us hp v hp' h => ⟨h.1, h.2.1, h.2.2.2⟩
theorem fr_X2_isMeasure : ∀ us hp v hp', fx_X2_isMeasure us hp v hp' → ∃ g, us = [.ref g] ∧ Nat.beq (xe_k g) 128 = true := fun us hp v hp' h => h.2.2.1
set_option maxRecDepth 100000 in
set_option maxHeartbeats 4000000 in
theorem kx_X2_isMeasure (l : Launch) (D : va_G) (k : Nat → ClassId) (B0 : Nat) (ad : Nat → Nat) (al sw : Nat) : xe_Con l yX2_isMeasure (zw yX2_isMeasure cX2_isMeasure 1 (some .boolean)) ({ frames := 0, cells := 0, slots := 0, locals := 0 }) D k ad (zEx B0 ad al sw) xGT xSC xRF (fx_X2_isMeasure) := by
  have hEx := zEx_ok B0 ad al sw
  refine xe_mk (cc := cX2_isMeasure) (nL := 1) (ret := (some .boolean)) (fg := xg_X2_isMeasure) (fp := xp_X2_isMeasure) (sg := [(66, 220), (69, 221), (72, 222), (75, 223)]) (lc := []) (cv := xv_X2_isMeasure) (cs := xt_X2_isMeasure) (ins := xi_X2_isMeasure) (by decide) rfl hEx (by decide +kernel) hx_X2_isMeasure ?_
  intro p e s m args below meth c Q Sg w0 A θ S hK hE hAB hA hth
  refine ⟨?_, ?_, ?_, ?_, ?_, ?_⟩
  · exact zf_an
  · exact zf_an
  · exact xe_a2 ((fun H locs rest pc ls hS hdg kk => va_gets (C := RX2) (n := "LONG") (d := zkD) (v := .ref (θ 220)) S.1 S.2.1 (by rw [(hth.2 20 (by decide)).1]; exact (hE.2.2.2.1.1 20 (by decide)).1.narrow hAB) hS S.2.2.2.1 (S.2.2.2.2 (.fieldLink RX2 66 "RungMoney$Key" "LONG" "LRungMoney$Key;") (List.mem_cons_of_mem _ zw_1140)) (fun _ h9 => h9) hdg (kk (by show Sg (θ 220) = some 128; rw [(hth.2 20 (by decide)).1]; exact (hth.2 20 (by decide)).2)))) (xe_a2 ((fun H locs rest pc ls hS hdg kk => va_gets (C := RX2) (n := "LOOKS") (d := zkD) (v := .ref (θ 221)) S.1 S.2.1 (by rw [(hth.2 21 (by decide)).1]; exact (hE.2.2.2.1.1 21 (by decide)).1.narrow hAB) hS S.2.2.2.1 (S.2.2.2.2 (.fieldLink RX2 69 "RungMoney$Key" "LOOKS" "LRungMoney$Key;") (List.mem_cons_of_mem _ zw_1142)) (fun _ h9 => h9) hdg (kk (by show Sg (θ 221) = some 128; rw [(hth.2 21 (by decide)).1]; exact (hth.2 21 (by decide)).2)))) (xe_a2 ((fun H locs rest pc ls hS hdg kk => va_gets (C := RX2) (n := "WORTH") (d := zkD) (v := .ref (θ 222)) S.1 S.2.1 (by rw [(hth.2 22 (by decide)).1]; exact (hE.2.2.2.1.1 22 (by decide)).1.narrow hAB) hS S.2.2.2.1 (S.2.2.2.2 (.fieldLink RX2 72 "RungMoney$Key" "WORTH" "LRungMoney$Key;") (List.mem_cons_of_mem _ zw_1144)) (fun _ h9 => h9) hdg (kk (by show Sg (θ 222) = some 128; rw [(hth.2 22 (by decide)).1]; exact (hth.2 22 (by decide)).2)))) (xe_a2 ((fun H locs rest pc ls hS hdg kk => va_gets (C := RX2) (n := "NUMBER") (d := zkD) (v := .ref (θ 223)) S.1 S.2.1 (by rw [(hth.2 23 (by decide)).1]; exact (hE.2.2.2.1.1 23 (by decide)).1.narrow hAB) hS S.2.2.2.1 (S.2.2.2.2 (.fieldLink RX2 75 "RungMoney$Key" "NUMBER" "LRungMoney$Key;") (List.mem_cons_of_mem _ zw_1146)) (fun _ h9 => h9) hdg (kk (by show Sg (θ 223) = some 128; rw [(hth.2 23 (by decide)).1]; exact (hth.2 23 (by decide)).2)))) xe_n2)))
  · exact xe_n3
  · exact xe_n4
  · exact xe_n4
set_option maxRecDepth 100000 in
theorem pt_X2_isMeasure_0 {k0 : Nat} {I : Nat → Nat → Int32} {L : Nat → Nat → Int64} (h1 : (Nat.beq k0 220) = true) : ∃ n, xr_X2_isMeasure n (0, [(0, .ref k0)], [], (I, L)) (some (.int (1 : Int32))) (I, L) := by
  refine xe_bT 2 (A := (28, [(0, .ref k0)], [], (I, L))) (B := (7, [(0, .ref k0)], [], (I, L))) h1 rfl ?_
  refine xe_go 1 (s' := (33, [(0, .ref k0)], [.int (1 : Int32)], (I, L))) rfl ?_
  exact xe_end rfl rfl rfl
set_option maxRecDepth 100000 in
theorem pt_X2_isMeasure_1 {k0 : Nat} {I : Nat → Nat → Int32} {L : Nat → Nat → Int64} (h1 : (Nat.beq k0 220) = false) (h2 : (Nat.beq k0 221) = true) : ∃ n, xr_X2_isMeasure n (0, [(0, .ref k0)], [], (I, L)) (some (.int (1 : Int32))) (I, L) := by
  refine xe_bF 2 (A := (28, [(0, .ref k0)], [], (I, L))) (B := (7, [(0, .ref k0)], [], (I, L))) h1 rfl ?_
  refine xe_bT 2 (A := (28, [(0, .ref k0)], [], (I, L))) (B := (14, [(0, .ref k0)], [], (I, L))) h2 rfl ?_
  refine xe_go 1 (s' := (33, [(0, .ref k0)], [.int (1 : Int32)], (I, L))) rfl ?_
  exact xe_end rfl rfl rfl
set_option maxRecDepth 100000 in
theorem pt_X2_isMeasure_2 {k0 : Nat} {I : Nat → Nat → Int32} {L : Nat → Nat → Int64} (h1 : (Nat.beq k0 220) = false) (h2 : (Nat.beq k0 221) = false) (h3 : (Nat.beq k0 222) = true) : ∃ n, xr_X2_isMeasure n (0, [(0, .ref k0)], [], (I, L)) (some (.int (1 : Int32))) (I, L) := by
  refine xe_bF 2 (A := (28, [(0, .ref k0)], [], (I, L))) (B := (7, [(0, .ref k0)], [], (I, L))) h1 rfl ?_
  refine xe_bF 2 (A := (28, [(0, .ref k0)], [], (I, L))) (B := (14, [(0, .ref k0)], [], (I, L))) h2 rfl ?_
  refine xe_bT 2 (A := (28, [(0, .ref k0)], [], (I, L))) (B := (21, [(0, .ref k0)], [], (I, L))) h3 rfl ?_
  refine xe_go 1 (s' := (33, [(0, .ref k0)], [.int (1 : Int32)], (I, L))) rfl ?_
  exact xe_end rfl rfl rfl
set_option maxRecDepth 100000 in
theorem pt_X2_isMeasure_3 {k0 : Nat} {I : Nat → Nat → Int32} {L : Nat → Nat → Int64} (h1 : (Nat.beq k0 220) = false) (h2 : (Nat.beq k0 221) = false) (h3 : (Nat.beq k0 222) = false) (h4 : (Nat.beq k0 223) = true) : ∃ n, xr_X2_isMeasure n (0, [(0, .ref k0)], [], (I, L)) (some (.int (1 : Int32))) (I, L) := by
  refine xe_bF 2 (A := (28, [(0, .ref k0)], [], (I, L))) (B := (7, [(0, .ref k0)], [], (I, L))) h1 rfl ?_
  refine xe_bF 2 (A := (28, [(0, .ref k0)], [], (I, L))) (B := (14, [(0, .ref k0)], [], (I, L))) h2 rfl ?_
  refine xe_bF 2 (A := (28, [(0, .ref k0)], [], (I, L))) (B := (21, [(0, .ref k0)], [], (I, L))) h3 rfl ?_
  refine xe_bT 2 (A := (28, [(0, .ref k0)], [], (I, L))) (B := (32, [(0, .ref k0)], [], (I, L))) h4 rfl ?_
  refine xe_go 1 (s' := (33, [(0, .ref k0)], [.int (1 : Int32)], (I, L))) rfl ?_
  exact xe_end rfl rfl rfl
set_option maxRecDepth 100000 in
theorem pt_X2_isMeasure_4 {k0 : Nat} {I : Nat → Nat → Int32} {L : Nat → Nat → Int64} (h1 : (Nat.beq k0 220) = false) (h2 : (Nat.beq k0 221) = false) (h3 : (Nat.beq k0 222) = false) (h4 : (Nat.beq k0 223) = false) : ∃ n, xr_X2_isMeasure n (0, [(0, .ref k0)], [], (I, L)) (some (.int (0 : Int32))) (I, L) := by
  refine xe_bF 2 (A := (28, [(0, .ref k0)], [], (I, L))) (B := (7, [(0, .ref k0)], [], (I, L))) h1 rfl ?_
  refine xe_bF 2 (A := (28, [(0, .ref k0)], [], (I, L))) (B := (14, [(0, .ref k0)], [], (I, L))) h2 rfl ?_
  refine xe_bF 2 (A := (28, [(0, .ref k0)], [], (I, L))) (B := (21, [(0, .ref k0)], [], (I, L))) h3 rfl ?_
  refine xe_bF 2 (A := (28, [(0, .ref k0)], [], (I, L))) (B := (32, [(0, .ref k0)], [], (I, L))) h4 rfl ?_
  refine xe_go 0 (s' := (33, [(0, .ref k0)], [.int (0 : Int32)], (I, L))) rfl ?_
  exact xe_end rfl rfl rfl
def xi_X7_takeCompare : List (Nat × Nat × Instr) := [(0, 1, .aload_n 0), (1, 2, .bipush 60), (3, 3, .invokevirtual 71), (6, 3, .ifCond .ne 27), (9, 1, .aload_n 0), (10, 2, .bipush 61), (12, 3, .invokevirtual 71), (15, 3, .ifCond .ne 18), (18, 1, .aload_n 0), (19, 2, .bipush 62), (21, 3, .invokevirtual 71), (24, 3, .ifCond .ne 9), (27, 1, .aload_n 0), (28, 1, .iconst 1), (29, 3, .invokevirtual 74), (32, 1, .ireturn), (33, 1, .aload_n 0), (34, 1, .aload_n 0), (35, 3, .getfield 54), (38, 3, .putfield 77), (41, 1, .aload_n 0), (42, 3, .invokevirtual 28), (45, 1, .iconst 1), (46, 1, .ireturn)]
def xg_X7_takeCompare : zf_ft := [(54, 5, 7, .inl (0, 0))]
def xp_X7_takeCompare : zf_ft := [(77, 5, 8, .inl ((-2147483648), 2147483647))]
def xv_X7_takeCompare : List (Nat × Nat × xe_F) := [(71, 2, fx_X7_isSign), (74, 2, fx_X7_fail), (28, 1, fx_X7_step)]
def xt_X7_takeCompare : List (Nat × Nat × xe_F) := []
abbrev xr_X7_takeCompare := xe_run xGT xSC xRF 1 xg_X7_takeCompare xp_X7_takeCompare [] [] (xv_X7_takeCompare) xt_X7_takeCompare xi_X7_takeCompare
def fx_X7_takeCompare : xe_F := fun us hp v hp' => (us.map fun v => v.category).sum ≤ 1 ∧ xe_rt (some .boolean) v ∧ (∃ ar, us = ar ++ [.ref 3]) ∧ ∃ n, xr_X7_takeCompare n (0, xe_ag 0 us.reverse, [], hp) v hp'
theorem mk_X7_takeCompare  {hp hp' : xe_H} {v : Option Value} (hr : xe_rt (some .boolean) v) (h : ∃ n, xr_X7_takeCompare n (0, [(0, .ref 3)], [], hp) v hp') : fx_X7_takeCompare [.ref 3] hp v hp' := ⟨Nat.le_of_ble_eq_true rfl, hr, ⟨[], rfl⟩, h⟩
theorem hx_X7_takeCompare : ∀ us hp v hp', fx_X7_takeCompare us hp v hp' → (us.map fun v => v.category).sum ≤ 1 ∧ xe_rt (some .boolean) v ∧ ∃ n, xr_X7_takeCompare n (0, xe_ag 0 us.reverse, [], hp) v hp' := fun us hp v hp' h => ⟨h.1, h.2.1, h.2.2.2⟩
theorem fr_X7_takeCompare : ∀ us hp v hp', fx_X7_takeCompare us hp v hp' → ∃ ar, us = ar ++ [.ref 3] := fun us hp v hp' h => h.2.2.1
set_option maxRecDepth 100000 in
set_option maxHeartbeats 4000000 in
theorem kx_X7_takeCompare (l : Launch) (D : va_G) (k : Nat → ClassId) (B0 : Nat) (ad : Nat → Nat) (al sw : Nat) : xe_Con l yX7_takeCompare (zw yX7_takeCompare cX7_takeCompare 1 (some .boolean)) ({ frames := 2, cells := 0, slots := 0, locals := 44 }) D k ad (zEx B0 ad al sw) xGT xSC xRF (fx_X7_takeCompare) := by
  have hEx := zEx_ok B0 ad al sw
  refine xe_mk (cc := cX7_takeCompare) (nL := 1) (ret := (some .boolean)) (fg := xg_X7_takeCompare) (fp := xp_X7_takeCompare) (sg := []) (lc := []) (cv := xv_X7_takeCompare) (cs := xt_X7_takeCompare) (ins := xi_X7_takeCompare) (by decide) rfl hEx (by decide +kernel) hx_X7_takeCompare ?_
  intro p e s m args below meth c Q Sg w0 A θ S hK hE hAB hA hth
  refine ⟨?_, ?_, ?_, ?_, ?_, ?_⟩
  · exact zf_ac ((fun H locs ws a q0 fs v rest pc ls hP he hv hdg kk => va_get (D := D) (ci := 5) (C := RX7) (T := TX7) (N := 11) (own := RX7) S.1 S.2.1 S.2.2.2.2 (zg_in inW_X7) S.2.2.2.1 hK hP q0 he rfl 7 (by decide) (S.2.2.2.2 (.fieldLink RX7 54 "RungMoney$Reader" "sign" "I") (List.mem_cons_of_mem _ zw_161)) (fun _ h9 => h9) hv hdg kk)) zf_an
  · exact zf_ac ((fun H locs ws a q0 fs v rest pc ls hP hD hS he hl hv hdg kk => by obtain ⟨x, rfl, h1, h2⟩ := hv; exact va_put (D := D) (ci := 5) (v := .int x) (ty := .int) (C := RX7) (T := TX7) (N := 11) (own := RX7) S.1 S.2.1 S.2.2.2.2 (zg_in inW_X7) tyX7 tyX7_ok nmX7 S.2.2.2.1 hK hP hD hS q0 he rfl 8 (by decide) (S.2.2.2.2 (.fieldLink RX7 77 "RungMoney$Reader" "taken" "I") (List.mem_cons_of_mem _ zw_165)) (fun _ h9 => h9) rfl (by decide +kernel) rfl rfl hl hdg kk)) zf_an
  · exact xe_n2
  · exact xe_n3
  · exact xe_a4 (xe_crV S hEx hE hAB hA hK hth (kx_X7_isSign l D k B0 ad al sw) (cwV 1 S.2.2.2.2 (zg_V zw_604 zw_605 zw_606 zw_97 zw_607) rfl rfl rfl (by decide +kernel) ⟨(Nat.le_of_ble_eq_true rfl), (Nat.le_of_ble_eq_true rfl)⟩) ⟨(Nat.le_of_ble_eq_true rfl), (Nat.le_of_ble_eq_true rfl)⟩ 5 rfl rfl 3 (by decide +kernel) fr_X7_isSign) (xe_a4 (xe_crV S hEx hE hAB hA hK hth (kx_X7_fail l D k B0 ad al sw) (cwV 1 S.2.2.2.2 (zg_V zw_558 zw_526 zw_527 zw_97 zw_528) rfl rfl rfl (by decide +kernel) ⟨(Nat.le_of_ble_eq_true rfl), (Nat.le_of_ble_eq_true rfl)⟩) ⟨(Nat.le_of_ble_eq_true rfl), (Nat.le_of_ble_eq_true rfl)⟩ 5 rfl rfl 3 (by decide +kernel) fr_X7_fail) (xe_a4 (xe_crV S hEx hE hAB hA hK hth (kx_X7_step l D k B0 ad al sw) (cwV 0 S.2.2.2.2 (zg_V zw_493 zw_494 zw_495 zw_97 zw_496) rfl rfl rfl (by decide +kernel) ⟨(Nat.le_of_ble_eq_true rfl), (Nat.le_of_ble_eq_true rfl)⟩) ⟨(Nat.le_of_ble_eq_true rfl), (Nat.le_of_ble_eq_true rfl)⟩ 5 rfl rfl 3 (by decide +kernel) fr_X7_step) xe_n4))
  · exact xe_n4
set_option maxRecDepth 100000 in
theorem pt_X7_takeCompare_0 {I I1 I2 : Nat → Nat → Int32} {L L1 L2 : Nat → Nat → Int64} (c1 : fx_X7_isSign [.int (60 : Int32), .ref 3] (I, L) (some (.int 1)) (I1, L1)) (c2 : fx_X7_step [.ref 3] ((xu I1 3 8 (I1 3 7)), L1) none (I2, L2)) : ∃ n, xr_X7_takeCompare n (0, [(0, .ref 3)], [], (I, L)) (some (.int (1 : Int32))) (I2, L2) := by
  refine xe_go 1 (s' := (3, [(0, .ref 3)], [.int (60 : Int32), .ref 3], (I, L))) rfl ?_
  refine xe_vir (n := 2) (f := fx_X7_isSign) rfl (Nat.le_of_ble_eq_true rfl) (List.mem_of_getElem? (i := 0) rfl) (Nat.le_of_ble_eq_true rfl) c1 ?_
  refine xe_go 5 (s' := (42, [(0, .ref 3)], [.ref 3], ((xu I1 3 8 (I1 3 7)), L1))) rfl ?_
  refine xe_vir (n := 1) (f := fx_X7_step) rfl (Nat.le_of_ble_eq_true rfl) (List.mem_of_getElem? (i := 2) rfl) (Nat.le_of_ble_eq_true rfl) c2 ?_
  refine xe_go 0 (s' := (46, [(0, .ref 3)], [.int (1 : Int32)], (I2, L2))) rfl ?_
  exact xe_end rfl rfl rfl
set_option maxRecDepth 100000 in
theorem pt_X7_takeCompare_1 {I I1 I2 I3 : Nat → Nat → Int32} {L L1 L2 L3 : Nat → Nat → Int64} (c1 : fx_X7_isSign [.int (60 : Int32), .ref 3] (I, L) (some (.int 0)) (I1, L1)) (c2 : fx_X7_isSign [.int (61 : Int32), .ref 3] (I1, L1) (some (.int 1)) (I2, L2)) (c3 : fx_X7_step [.ref 3] ((xu I2 3 8 (I2 3 7)), L2) none (I3, L3)) : ∃ n, xr_X7_takeCompare n (0, [(0, .ref 3)], [], (I, L)) (some (.int (1 : Int32))) (I3, L3) := by
  refine xe_go 1 (s' := (3, [(0, .ref 3)], [.int (60 : Int32), .ref 3], (I, L))) rfl ?_
  refine xe_vir (n := 2) (f := fx_X7_isSign) rfl (Nat.le_of_ble_eq_true rfl) (List.mem_of_getElem? (i := 0) rfl) (Nat.le_of_ble_eq_true rfl) c1 ?_
  refine xe_go 2 (s' := (12, [(0, .ref 3)], [.int (61 : Int32), .ref 3], (I1, L1))) rfl ?_
  refine xe_vir (n := 2) (f := fx_X7_isSign) rfl (Nat.le_of_ble_eq_true rfl) (List.mem_of_getElem? (i := 0) rfl) (Nat.le_of_ble_eq_true rfl) c2 ?_
  refine xe_go 5 (s' := (42, [(0, .ref 3)], [.ref 3], ((xu I2 3 8 (I2 3 7)), L2))) rfl ?_
  refine xe_vir (n := 1) (f := fx_X7_step) rfl (Nat.le_of_ble_eq_true rfl) (List.mem_of_getElem? (i := 2) rfl) (Nat.le_of_ble_eq_true rfl) c3 ?_
  refine xe_go 0 (s' := (46, [(0, .ref 3)], [.int (1 : Int32)], (I3, L3))) rfl ?_
  exact xe_end rfl rfl rfl
set_option maxRecDepth 100000 in
theorem pt_X7_takeCompare_2 {I I1 I2 I3 I4 : Nat → Nat → Int32} {L L1 L2 L3 L4 : Nat → Nat → Int64} (c1 : fx_X7_isSign [.int (60 : Int32), .ref 3] (I, L) (some (.int 0)) (I1, L1)) (c2 : fx_X7_isSign [.int (61 : Int32), .ref 3] (I1, L1) (some (.int 0)) (I2, L2)) (c3 : fx_X7_isSign [.int (62 : Int32), .ref 3] (I2, L2) (some (.int 1)) (I3, L3)) (c4 : fx_X7_step [.ref 3] ((xu I3 3 8 (I3 3 7)), L3) none (I4, L4)) : ∃ n, xr_X7_takeCompare n (0, [(0, .ref 3)], [], (I, L)) (some (.int (1 : Int32))) (I4, L4) := by
  refine xe_go 1 (s' := (3, [(0, .ref 3)], [.int (60 : Int32), .ref 3], (I, L))) rfl ?_
  refine xe_vir (n := 2) (f := fx_X7_isSign) rfl (Nat.le_of_ble_eq_true rfl) (List.mem_of_getElem? (i := 0) rfl) (Nat.le_of_ble_eq_true rfl) c1 ?_
  refine xe_go 2 (s' := (12, [(0, .ref 3)], [.int (61 : Int32), .ref 3], (I1, L1))) rfl ?_
  refine xe_vir (n := 2) (f := fx_X7_isSign) rfl (Nat.le_of_ble_eq_true rfl) (List.mem_of_getElem? (i := 0) rfl) (Nat.le_of_ble_eq_true rfl) c2 ?_
  refine xe_go 2 (s' := (21, [(0, .ref 3)], [.int (62 : Int32), .ref 3], (I2, L2))) rfl ?_
  refine xe_vir (n := 2) (f := fx_X7_isSign) rfl (Nat.le_of_ble_eq_true rfl) (List.mem_of_getElem? (i := 0) rfl) (Nat.le_of_ble_eq_true rfl) c3 ?_
  refine xe_go 5 (s' := (42, [(0, .ref 3)], [.ref 3], ((xu I3 3 8 (I3 3 7)), L3))) rfl ?_
  refine xe_vir (n := 1) (f := fx_X7_step) rfl (Nat.le_of_ble_eq_true rfl) (List.mem_of_getElem? (i := 2) rfl) (Nat.le_of_ble_eq_true rfl) c4 ?_
  refine xe_go 0 (s' := (46, [(0, .ref 3)], [.int (1 : Int32)], (I4, L4))) rfl ?_
  exact xe_end rfl rfl rfl
set_option maxRecDepth 100000 in
theorem pt_X7_takeCompare_3 {I I1 I2 I3 I4 : Nat → Nat → Int32} {L L1 L2 L3 L4 : Nat → Nat → Int64} (c1 : fx_X7_isSign [.int (60 : Int32), .ref 3] (I, L) (some (.int 0)) (I1, L1)) (c2 : fx_X7_isSign [.int (61 : Int32), .ref 3] (I1, L1) (some (.int 0)) (I2, L2)) (c3 : fx_X7_isSign [.int (62 : Int32), .ref 3] (I2, L2) (some (.int 0)) (I3, L3)) (c4 : fx_X7_fail [.int (1 : Int32), .ref 3] (I3, L3) (some (.int 0)) (I4, L4)) : ∃ n, xr_X7_takeCompare n (0, [(0, .ref 3)], [], (I, L)) (some (.int 0)) (I4, L4) := by
  refine xe_go 1 (s' := (3, [(0, .ref 3)], [.int (60 : Int32), .ref 3], (I, L))) rfl ?_
  refine xe_vir (n := 2) (f := fx_X7_isSign) rfl (Nat.le_of_ble_eq_true rfl) (List.mem_of_getElem? (i := 0) rfl) (Nat.le_of_ble_eq_true rfl) c1 ?_
  refine xe_go 2 (s' := (12, [(0, .ref 3)], [.int (61 : Int32), .ref 3], (I1, L1))) rfl ?_
  refine xe_vir (n := 2) (f := fx_X7_isSign) rfl (Nat.le_of_ble_eq_true rfl) (List.mem_of_getElem? (i := 0) rfl) (Nat.le_of_ble_eq_true rfl) c2 ?_
  refine xe_go 2 (s' := (21, [(0, .ref 3)], [.int (62 : Int32), .ref 3], (I2, L2))) rfl ?_
  refine xe_vir (n := 2) (f := fx_X7_isSign) rfl (Nat.le_of_ble_eq_true rfl) (List.mem_of_getElem? (i := 0) rfl) (Nat.le_of_ble_eq_true rfl) c3 ?_
  refine xe_go 2 (s' := (29, [(0, .ref 3)], [.int (1 : Int32), .ref 3], (I3, L3))) rfl ?_
  refine xe_vir (n := 2) (f := fx_X7_fail) rfl (Nat.le_of_ble_eq_true rfl) (List.mem_of_getElem? (i := 1) rfl) (Nat.le_of_ble_eq_true rfl) c4 ?_
  exact xe_end rfl rfl rfl
def xi_X8_forget : List (Nat × Nat × Instr) := [(0, 1, .aload_n 0), (1, 1, .iconst 0), (2, 3, .putfield 29), (5, 1, .aload_n 0), (6, 1, .iconst 0), (7, 3, .putfield 33), (10, 1, .return_)]
def xg_X8_forget : zf_ft := []
def xp_X8_forget : zf_ft := [(29, 6, 4, .inl ((-2147483648), 2147483647)), (33, 6, 5, .inl ((-2147483648), 2147483647))]
def xv_X8_forget : List (Nat × Nat × xe_F) := []
def xt_X8_forget : List (Nat × Nat × xe_F) := []
abbrev xr_X8_forget := xe_run xGT xSC xRF 1 xg_X8_forget xp_X8_forget [] [] (xv_X8_forget) xt_X8_forget xi_X8_forget
def fx_X8_forget : xe_F := fun us hp v hp' => (us.map fun v => v.category).sum ≤ 1 ∧ xe_rt none v ∧ (∃ ar, us = ar ++ [.ref 76]) ∧ ∃ n, xr_X8_forget n (0, xe_ag 0 us.reverse, [], hp) v hp'
theorem mk_X8_forget  {hp hp' : xe_H} {v : Option Value} (hr : xe_rt none v) (h : ∃ n, xr_X8_forget n (0, [(0, .ref 76)], [], hp) v hp') : fx_X8_forget [.ref 76] hp v hp' := ⟨Nat.le_of_ble_eq_true rfl, hr, ⟨[], rfl⟩, h⟩
theorem hx_X8_forget : ∀ us hp v hp', fx_X8_forget us hp v hp' → (us.map fun v => v.category).sum ≤ 1 ∧ xe_rt none v ∧ ∃ n, xr_X8_forget n (0, xe_ag 0 us.reverse, [], hp) v hp' := fun us hp v hp' h => ⟨h.1, h.2.1, h.2.2.2⟩
theorem fr_X8_forget : ∀ us hp v hp', fx_X8_forget us hp v hp' → ∃ ar, us = ar ++ [.ref 76] := fun us hp v hp' h => h.2.2.1
set_option maxRecDepth 100000 in
set_option maxHeartbeats 4000000 in
theorem kx_X8_forget (l : Launch) (D : va_G) (k : Nat → ClassId) (B0 : Nat) (ad : Nat → Nat) (al sw : Nat) : xe_Con l yX8_forget (zw yX8_forget cX8_forget 1 none) ({ frames := 0, cells := 0, slots := 0, locals := 0 }) D k ad (zEx B0 ad al sw) xGT xSC xRF (fx_X8_forget) := by
  have hEx := zEx_ok B0 ad al sw
  refine xe_mk (cc := cX8_forget) (nL := 1) (ret := none) (fg := xg_X8_forget) (fp := xp_X8_forget) (sg := []) (lc := []) (cv := xv_X8_forget) (cs := xt_X8_forget) (ins := xi_X8_forget) (by decide) rfl hEx (by decide +kernel) hx_X8_forget ?_
  intro p e s m args below meth c Q Sg w0 A θ S hK hE hAB hA hth
  refine ⟨?_, ?_, ?_, ?_, ?_, ?_⟩
  · exact zf_an
  · exact zf_ac ((fun H locs ws a q0 fs v rest pc ls hP hD hS he hl hv hdg kk => by obtain ⟨x, rfl, h1, h2⟩ := hv; exact va_put (D := D) (ci := 6) (v := .int x) (ty := .int) (C := RX8) (T := TX8) (N := 6) (own := RX8) S.1 S.2.1 S.2.2.2.2 (zg_in inW_X8) tyX8 tyX8_ok nmX8 S.2.2.2.1 hK hP hD hS q0 he rfl 4 (by decide) (S.2.2.2.2 (.fieldLink RX8 29 "RungMoney$Sentence" "size" "I") (List.mem_cons_of_mem _ zw_317)) (fun _ h9 => h9) rfl (by decide +kernel) rfl rfl hl hdg kk)) (zf_ac ((fun H locs ws a q0 fs v rest pc ls hP hD hS he hl hv hdg kk => by obtain ⟨x, rfl, h1, h2⟩ := hv; exact va_put (D := D) (ci := 6) (v := .int x) (ty := .int) (C := RX8) (T := TX8) (N := 6) (own := RX8) S.1 S.2.1 S.2.2.2.2 (zg_in inW_X8) tyX8 tyX8_ok nmX8 S.2.2.2.1 hK hP hD hS q0 he rfl 5 (by decide) (S.2.2.2.2 (.fieldLink RX8 33 "RungMoney$Sentence" "ones" "I") (List.mem_cons_of_mem _ zw_318)) (fun _ h9 => h9) rfl (by decide +kernel) rfl rfl hl hdg kk)) zf_an)
  · exact xe_n2
  · exact xe_n3
  · exact xe_n4
  · exact xe_n4
set_option maxRecDepth 100000 in
theorem pt_X8_forget_0 {I : Nat → Nat → Int32} {L : Nat → Nat → Int64}  : ∃ n, xr_X8_forget n (0, [(0, .ref 76)], [], (I, L)) none ((xu (xu I 76 4 (0 : Int32)) 76 5 (0 : Int32)), L) := by
  refine xe_go 5 (s' := (10, [(0, .ref 76)], [], ((xu (xu I 76 4 (0 : Int32)) 76 5 (0 : Int32)), L))) rfl ?_
  exact xe_end rfl rfl rfl
def xi_X8_add : List (Nat × Nat × Instr) := [(0, 1, .aload_n 0), (1, 3, .getfield 29), (4, 2, .bipush 40), (6, 3, .if_icmp .ge 43), (9, 1, .aload_n 0), (10, 3, .getfield 11), (13, 1, .aload_n 0), (14, 3, .getfield 29), (17, 1, .aload_n 1), (18, 1, .aastore), (19, 1, .aload_n 0), (20, 3, .getfield 15), (23, 1, .aload_n 0), (24, 3, .getfield 29), (27, 1, .iload_n 2), (28, 1, .iastore), (29, 1, .aload_n 0), (30, 3, .getfield 19), (33, 1, .aload_n 0), (34, 3, .getfield 29), (37, 1, .iload_n 3), (38, 1, .iastore), (39, 1, .aload_n 0), (40, 1, .dup), (41, 3, .getfield 29), (44, 1, .iconst 1), (45, 1, .iadd), (46, 3, .putfield 29), (49, 1, .return_)]
def xg_X8_add : zf_ft := [(29, 6, 4, .inl (0, 0)), (11, 6, 0, .inl (0, 0)), (15, 6, 1, .inl (0, 0)), (19, 6, 2, .inl (0, 0))]
def xp_X8_add : zf_ft := [(29, 6, 4, .inl ((-2147483648), 2147483647))]
def xv_X8_add : List (Nat × Nat × xe_F) := []
def xt_X8_add : List (Nat × Nat × xe_F) := []
abbrev xr_X8_add := xe_run xGT xSC xRF 4 xg_X8_add xp_X8_add [] [] (xv_X8_add) xt_X8_add xi_X8_add
def fx_X8_add : xe_F := fun us hp v hp' => (us.map fun v => v.category).sum ≤ 4 ∧ xe_rt none v ∧ (∃ ar, us = ar ++ [.ref 76]) ∧ ∃ n, xr_X8_add n (0, xe_ag 0 us.reverse, [], hp) v hp'
theorem mk_X8_add {k1 : Nat} {a2 : Int32} {a3 : Int32} {hp hp' : xe_H} {v : Option Value} (hr : xe_rt none v) (h : ∃ n, xr_X8_add n (0, [(0, .ref 76), (1, .ref k1), (2, .int a2), (3, .int a3)], [], hp) v hp') : fx_X8_add [.int a3, .int a2, .ref k1, .ref 76] hp v hp' := ⟨Nat.le_of_ble_eq_true rfl, hr, ⟨[.int a3, .int a2, .ref k1], rfl⟩, h⟩
theorem hx_X8_add : ∀ us hp v hp', fx_X8_add us hp v hp' → (us.map fun v => v.category).sum ≤ 4 ∧ xe_rt none v ∧ ∃ n, xr_X8_add n (0, xe_ag 0 us.reverse, [], hp) v hp' := fun us hp v hp' h => ⟨h.1, h.2.1, h.2.2.2⟩
theorem fr_X8_add : ∀ us hp v hp', fx_X8_add us hp v hp' → ∃ ar, us = ar ++ [.ref 76] := fun us hp v hp' h => h.2.2.1
set_option maxRecDepth 100000 in
set_option maxHeartbeats 4000000 in
theorem kx_X8_add (l : Launch) (D : va_G) (k : Nat → ClassId) (B0 : Nat) (ad : Nat → Nat) (al sw : Nat) : xe_Con l yX8_add (zw yX8_add cX8_add 4 none) ({ frames := 0, cells := 0, slots := 0, locals := 0 }) D k ad (zEx B0 ad al sw) xGT xSC xRF (fx_X8_add) := by
  have hEx := zEx_ok B0 ad al sw
  refine xe_mk (cc := cX8_add) (nL := 4) (ret := none) (fg := xg_X8_add) (fp := xp_X8_add) (sg := []) (lc := []) (cv := xv_X8_add) (cs := xt_X8_add) (ins := xi_X8_add) (by decide) rfl hEx (by decide +kernel) hx_X8_add ?_
  intro p e s m args below meth c Q Sg w0 A θ S hK hE hAB hA hth
  refine ⟨?_, ?_, ?_, ?_, ?_, ?_⟩
  · exact zf_ac ((fun H locs ws a q0 fs v rest pc ls hP he hv hdg kk => va_get (D := D) (ci := 6) (C := RX8) (T := TX8) (N := 6) (own := RX8) S.1 S.2.1 S.2.2.2.2 (zg_in inW_X8) S.2.2.2.1 hK hP q0 he rfl 4 (by decide) (S.2.2.2.2 (.fieldLink RX8 29 "RungMoney$Sentence" "size" "I") (List.mem_cons_of_mem _ zw_317)) (fun _ h9 => h9) hv hdg kk)) (zf_ac ((fun H locs ws a q0 fs v rest pc ls hP he hv hdg kk => va_get (D := D) (ci := 6) (C := RX8) (T := TX8) (N := 6) (own := RX8) S.1 S.2.1 S.2.2.2.2 (zg_in inW_X8) S.2.2.2.1 hK hP q0 he rfl 0 (by decide) (S.2.2.2.2 (.fieldLink RX8 11 "RungMoney$Sentence" "parts" "[LRungMoney$Key;") (List.mem_cons_of_mem _ zw_313)) (fun _ h9 => h9) hv hdg kk)) (zf_ac ((fun H locs ws a q0 fs v rest pc ls hP he hv hdg kk => va_get (D := D) (ci := 6) (C := RX8) (T := TX8) (N := 6) (own := RX8) S.1 S.2.1 S.2.2.2.2 (zg_in inW_X8) S.2.2.2.1 hK hP q0 he rfl 1 (by decide) (S.2.2.2.2 (.fieldLink RX8 15 "RungMoney$Sentence" "signs" "[I") (List.mem_cons_of_mem _ zw_314)) (fun _ h9 => h9) hv hdg kk)) (zf_ac ((fun H locs ws a q0 fs v rest pc ls hP he hv hdg kk => va_get (D := D) (ci := 6) (C := RX8) (T := TX8) (N := 6) (own := RX8) S.1 S.2.1 S.2.2.2.2 (zg_in inW_X8) S.2.2.2.1 hK hP q0 he rfl 2 (by decide) (S.2.2.2.2 (.fieldLink RX8 19 "RungMoney$Sentence" "numbers" "[I") (List.mem_cons_of_mem _ zw_315)) (fun _ h9 => h9) hv hdg kk)) zf_an)))
  · exact zf_ac ((fun H locs ws a q0 fs v rest pc ls hP hD hS he hl hv hdg kk => by obtain ⟨x, rfl, h1, h2⟩ := hv; exact va_put (D := D) (ci := 6) (v := .int x) (ty := .int) (C := RX8) (T := TX8) (N := 6) (own := RX8) S.1 S.2.1 S.2.2.2.2 (zg_in inW_X8) tyX8 tyX8_ok nmX8 S.2.2.2.1 hK hP hD hS q0 he rfl 4 (by decide) (S.2.2.2.2 (.fieldLink RX8 29 "RungMoney$Sentence" "size" "I") (List.mem_cons_of_mem _ zw_317)) (fun _ h9 => h9) rfl (by decide +kernel) rfl rfl hl hdg kk)) zf_an
  · exact xe_n2
  · exact xe_n3
  · exact xe_n4
  · exact xe_n4
set_option maxRecDepth 100000 in
theorem pt_X8_add_0 {k1 : Nat} {a2 a3 : Int32} {I : Nat → Nat → Int32} {L : Nat → Nat → Int64} (h1 : (xe_cmp .ge (I 76 4) (40 : Int32)) = true) : ∃ n, xr_X8_add n (0, [(0, .ref 76), (1, .ref k1), (2, .int a2), (3, .int a3)], [], (I, L)) none (I, L) := by
  refine xe_bT 3 (A := (49, [(0, .ref 76), (1, .ref k1), (2, .int a2), (3, .int a3)], [], (I, L))) (B := (9, [(0, .ref 76), (1, .ref k1), (2, .int a2), (3, .int a3)], [], (I, L))) h1 rfl ?_
  exact xe_end rfl rfl rfl
set_option maxRecDepth 100000 in
theorem pt_X8_add_1 {k1 : Nat} {a2 a3 : Int32} {I : Nat → Nat → Int32} {L : Nat → Nat → Int64} (h1 : (xe_cmp .ge (I 76 4) (40 : Int32)) = false) (h2 : (xe_ib (I 76 4) 40 && Nat.beq (xe_k k1) 128) = true) (h3 : xe_ib (I 76 4) 40 = true) (h4 : xe_ib (I 76 4) 40 = true) : ∃ n, xr_X8_add n (0, [(0, .ref 76), (1, .ref k1), (2, .int a2), (3, .int a3)], [], (I, L)) none ((xu (xu (xu I 78 (((I 76 4)).toInt.toNat) a2) 79 (((I 76 4)).toInt.toNat) a3) 76 4 ((I 76 4) + (1 : Int32))), L) := by
  refine xe_bF 3 (A := (49, [(0, .ref 76), (1, .ref k1), (2, .int a2), (3, .int a3)], [], (I, L))) (B := (9, [(0, .ref 76), (1, .ref k1), (2, .int a2), (3, .int a3)], [], (I, L))) h1 rfl ?_
  refine xe_ar 5 (A := (19, [(0, .ref 76), (1, .ref k1), (2, .int a2), (3, .int a3)], [], (I, L))) h2 rfl ?_
  refine xe_ar 5 (A := (29, [(0, .ref 76), (1, .ref k1), (2, .int a2), (3, .int a3)], [], ((xu I 78 (((I 76 4)).toInt.toNat) a2), L))) h3 rfl ?_
  refine xe_ar 5 (A := (39, [(0, .ref 76), (1, .ref k1), (2, .int a2), (3, .int a3)], [], ((xu (xu I 78 (((I 76 4)).toInt.toNat) a2) 79 (((I 76 4)).toInt.toNat) a3), L))) h4 rfl ?_
  refine xe_go 5 (s' := (49, [(0, .ref 76), (1, .ref k1), (2, .int a2), (3, .int a3)], [], ((xu (xu (xu I 78 (((I 76 4)).toInt.toNat) a2) 79 (((I 76 4)).toInt.toNat) a3) 76 4 ((I 76 4) + (1 : Int32))), L))) rfl ?_
  exact xe_end rfl rfl rfl
def xi_X8_readSimple : List (Nat × Nat × Instr) := [(0, 1, .iconst 0), (1, 2, .istore 4), (3, 1, .iconst 0), (4, 2, .istore 5), (6, 1, .aload_n 3), (7, 3, .getstatic 85), (10, 3, .if_acmp .ne 22), (13, 1, .aload_n 1), (14, 1, .aload_n 2), (15, 3, .invokevirtual 102), (18, 3, .ifCond .ne 5), (21, 1, .iconst 0), (22, 1, .ireturn), (23, 1, .aload_n 1), (24, 3, .getfield 106), (27, 2, .istore 5), (29, 3, .goto 44), (32, 1, .aload_n 3), (33, 3, .invokevirtual 92), (36, 3, .ifCond .eq 37), (39, 1, .aload_n 1), (40, 3, .invokevirtual 109), (43, 3, .ifCond .ne 5), (46, 1, .iconst 0), (47, 1, .ireturn), (48, 1, .aload_n 1), (49, 3, .getfield 106), (52, 2, .istore 4), (54, 1, .aload_n 1), (55, 1, .iconst 0), (56, 3, .sipush 999), (59, 3, .invokevirtual 112), (62, 3, .ifCond .ne 5), (65, 1, .iconst 0), (66, 1, .ireturn), (67, 1, .aload_n 1), (68, 3, .getfield 106), (71, 2, .istore 5), (73, 1, .aload_n 0), (74, 1, .aload_n 3), (75, 2, .iload 4), (77, 2, .iload 5), (79, 3, .invokevirtual 69), (82, 1, .iconst 1), (83, 1, .ireturn)]
def xg_X8_readSimple : zf_ft := [(106, 5, 8, .inl (0, 0))]
def xp_X8_readSimple : zf_ft := []
def xv_X8_readSimple : List (Nat × Nat × xe_F) := [(102, 2, fx_X7_takeMan), (92, 1, fx_X2_isMeasure), (109, 1, fx_X7_takeCompare), (112, 3, fx_X7_takeNumber), (69, 4, fx_X8_add)]
def xt_X8_readSimple : List (Nat × Nat × xe_F) := []
abbrev xr_X8_readSimple := xe_run xGT xSC xRF 6 xg_X8_readSimple xp_X8_readSimple [(85, 219)] [] (xv_X8_readSimple) xt_X8_readSimple xi_X8_readSimple
def fx_X8_readSimple : xe_F := fun us hp v hp' => (us.map fun v => v.category).sum ≤ 6 ∧ xe_rt (some .boolean) v ∧ (∃ ar, us = ar ++ [.ref 76]) ∧ ∃ n, xr_X8_readSimple n (0, xe_ag 0 us.reverse, [], hp) v hp'
theorem mk_X8_readSimple {k3 : Nat} {hp hp' : xe_H} {v : Option Value} (hr : xe_rt (some .boolean) v) (h : ∃ n, xr_X8_readSimple n (0, [(0, .ref 76), (1, .ref 3), (2, .ref 64), (3, .ref k3)], [], hp) v hp') : fx_X8_readSimple [.ref k3, .ref 64, .ref 3, .ref 76] hp v hp' := ⟨Nat.le_of_ble_eq_true rfl, hr, ⟨[.ref k3, .ref 64, .ref 3], rfl⟩, h⟩
theorem hx_X8_readSimple : ∀ us hp v hp', fx_X8_readSimple us hp v hp' → (us.map fun v => v.category).sum ≤ 6 ∧ xe_rt (some .boolean) v ∧ ∃ n, xr_X8_readSimple n (0, xe_ag 0 us.reverse, [], hp) v hp' := fun us hp v hp' h => ⟨h.1, h.2.1, h.2.2.2⟩
theorem fr_X8_readSimple : ∀ us hp v hp', fx_X8_readSimple us hp v hp' → ∃ ar, us = ar ++ [.ref 76] := fun us hp v hp' h => h.2.2.1
set_option maxRecDepth 100000 in
set_option maxHeartbeats 4000000 in
theorem kx_X8_readSimple (l : Launch) (D : va_G) (k : Nat → ClassId) (B0 : Nat) (ad : Nat → Nat) (al sw : Nat) : xe_Con l yX8_readSimple (zw yX8_readSimple cX8_readSimple 6 (some .boolean)) ({ frames := 3, cells := 0, slots := 0, locals := 66 }) D k ad (zEx B0 ad al sw) xGT xSC xRF (fx_X8_readSimple) := by
  have hEx := zEx_ok B0 ad al sw
  refine xe_mk (cc := cX8_readSimple) (nL := 6) (ret := (some .boolean)) (fg := xg_X8_readSimple) (fp := xp_X8_readSimple) (sg := [(85, 219)]) (lc := []) (cv := xv_X8_readSimple) (cs := xt_X8_readSimple) (ins := xi_X8_readSimple) (by decide) rfl hEx (by decide +kernel) hx_X8_readSimple ?_
  intro p e s m args below meth c Q Sg w0 A θ S hK hE hAB hA hth
  refine ⟨?_, ?_, ?_, ?_, ?_, ?_⟩
  · exact zf_ac ((fun H locs ws a q0 fs v rest pc ls hP he hv hdg kk => va_get (D := D) (ci := 5) (C := RX7) (T := TX7) (N := 11) (own := RX8) S.1 S.2.1 S.2.2.2.2 (zg_in inW_X7) S.2.2.2.1 hK hP q0 he rfl 8 (by decide) (S.2.2.2.2 (.fieldLink RX8 106 "RungMoney$Reader" "taken" "I") (List.mem_cons_of_mem _ zw_164)) (fun _ h9 => h9) hv hdg kk)) zf_an
  · exact zf_an
  · exact xe_a2 ((fun H locs rest pc ls hS hdg kk => va_gets (C := RX2) (n := "OF") (d := zkD) (v := .ref (θ 219)) S.1 S.2.1 (by rw [(hth.2 19 (by decide)).1]; exact (hE.2.2.2.1.1 19 (by decide)).1.narrow hAB) hS S.2.2.2.1 (S.2.2.2.2 (.fieldLink RX8 85 "RungMoney$Key" "OF" "LRungMoney$Key;") (List.mem_cons_of_mem _ zw_1124)) (fun _ h9 => h9) hdg (kk (by show Sg (θ 219) = some 128; rw [(hth.2 19 (by decide)).1]; exact (hth.2 19 (by decide)).2)))) xe_n2
  · exact xe_n3
  · exact xe_a4 (xe_crV S hEx hE hAB hA hK hth (kx_X7_takeMan l D k B0 ad al sw) (cwV 1 S.2.2.2.2 (zg_V zw_1159 zw_550 zw_551 zw_97 zw_552) rfl rfl rfl (by decide +kernel) ⟨(Nat.le_of_ble_eq_true rfl), (Nat.le_of_ble_eq_true rfl)⟩) ⟨(Nat.le_of_ble_eq_true rfl), (Nat.le_of_ble_eq_true rfl)⟩ 5 rfl rfl 3 (by decide +kernel) fr_X7_takeMan) (xe_a4 (xe_crVK S hE hAB hA hK hth (kx_X2_isMeasure l D k B0 ad al sw) (cwV 0 S.2.2.2.2 (zg_V zw_1136 zw_1137 zw_1138 zw_104 zw_1139) rfl rfl rfl (by decide +kernel) ⟨(Nat.le_of_ble_eq_true rfl), (Nat.le_of_ble_eq_true rfl)⟩) ⟨(Nat.le_of_ble_eq_true rfl), (Nat.le_of_ble_eq_true rfl)⟩ fr_X2_isMeasure) (xe_a4 (xe_crV S hEx hE hAB hA hK hth (kx_X7_takeCompare l D k B0 ad al sw) (cwV 0 S.2.2.2.2 (zg_V zw_1160 zw_1161 zw_1162 zw_97 zw_1163) rfl rfl rfl (by decide +kernel) ⟨(Nat.le_of_ble_eq_true rfl), (Nat.le_of_ble_eq_true rfl)⟩) ⟨(Nat.le_of_ble_eq_true rfl), (Nat.le_of_ble_eq_true rfl)⟩ 5 rfl rfl 3 (by decide +kernel) fr_X7_takeCompare) (xe_a4 (xe_crV S hEx hE hAB hA hK hth (kx_X7_takeNumber l D k B0 ad al sw) (cwV 2 S.2.2.2.2 (zg_V zw_1164 zw_587 zw_588 zw_97 zw_589) rfl rfl rfl (by decide +kernel) ⟨(Nat.le_of_ble_eq_true rfl), (Nat.le_of_ble_eq_true rfl)⟩) ⟨(Nat.le_of_ble_eq_true rfl), (Nat.le_of_ble_eq_true rfl)⟩ 5 rfl rfl 3 (by decide +kernel) fr_X7_takeNumber) (xe_a4 (xe_crV S hEx hE hAB hA hK hth (kx_X8_add l D k B0 ad al sw) (cwV 3 S.2.2.2.2 (zg_V zw_1151 zw_1153 zw_19 zw_102 zw_1154) rfl rfl rfl (by decide +kernel) ⟨(Nat.le_of_ble_eq_true rfl), (Nat.le_of_ble_eq_true rfl)⟩) ⟨(Nat.le_of_ble_eq_true rfl), (Nat.le_of_ble_eq_true rfl)⟩ 6 rfl rfl 76 (by decide +kernel) fr_X8_add) xe_n4))))
  · exact xe_n4
set_option maxRecDepth 100000 in
theorem pt_X8_readSimple_0 {k3 : Nat} {I I1 I2 : Nat → Nat → Int32} {L L1 L2 : Nat → Nat → Int64} (h1 : (Nat.beq k3 219) = true) (c1 : fx_X7_takeMan [.ref 64, .ref 3] (I, L) (some (.int 1)) (I1, L1)) (c2 : fx_X8_add [.int (I1 3 8), .int (0 : Int32), .ref k3, .ref 76] (I1, L1) none (I2, L2)) : ∃ n, xr_X8_readSimple n (0, [(0, .ref 76), (1, .ref 3), (2, .ref 64), (3, .ref k3)], [], (I, L)) (some (.int (1 : Int32))) (I2, L2) := by
  refine xe_bT 6 (A := (13, [(0, .ref 76), (1, .ref 3), (2, .ref 64), (3, .ref k3), (4, .int (0 : Int32)), (5, .int (0 : Int32))], [], (I, L))) (B := (32, [(0, .ref 76), (1, .ref 3), (2, .ref 64), (3, .ref k3), (4, .int (0 : Int32)), (5, .int (0 : Int32))], [], (I, L))) h1 rfl ?_
  refine xe_go 1 (s' := (15, [(0, .ref 76), (1, .ref 3), (2, .ref 64), (3, .ref k3), (4, .int (0 : Int32)), (5, .int (0 : Int32))], [.ref 64, .ref 3], (I, L))) rfl ?_
  refine xe_vir (n := 2) (f := fx_X7_takeMan) rfl (Nat.le_of_ble_eq_true rfl) (List.mem_of_getElem? (i := 0) rfl) (Nat.le_of_ble_eq_true rfl) c1 ?_
  refine xe_go 8 (s' := (79, [(0, .ref 76), (1, .ref 3), (2, .ref 64), (3, .ref k3), (4, .int (0 : Int32)), (5, .int (I1 3 8))], [.int (I1 3 8), .int (0 : Int32), .ref k3, .ref 76], (I1, L1))) rfl ?_
  refine xe_vir (n := 4) (f := fx_X8_add) rfl (Nat.le_of_ble_eq_true rfl) (List.mem_of_getElem? (i := 4) rfl) (Nat.le_of_ble_eq_true rfl) c2 ?_
  refine xe_go 0 (s' := (83, [(0, .ref 76), (1, .ref 3), (2, .ref 64), (3, .ref k3), (4, .int (0 : Int32)), (5, .int (I1 3 8))], [.int (1 : Int32)], (I2, L2))) rfl ?_
  exact xe_end rfl rfl rfl
set_option maxRecDepth 100000 in
theorem pt_X8_readSimple_1 {k3 : Nat} {I I1 : Nat → Nat → Int32} {L L1 : Nat → Nat → Int64} (h1 : (Nat.beq k3 219) = true) (c1 : fx_X7_takeMan [.ref 64, .ref 3] (I, L) (some (.int 0)) (I1, L1)) : ∃ n, xr_X8_readSimple n (0, [(0, .ref 76), (1, .ref 3), (2, .ref 64), (3, .ref k3)], [], (I, L)) (some (.int (0 : Int32))) (I1, L1) := by
  refine xe_bT 6 (A := (13, [(0, .ref 76), (1, .ref 3), (2, .ref 64), (3, .ref k3), (4, .int (0 : Int32)), (5, .int (0 : Int32))], [], (I, L))) (B := (32, [(0, .ref 76), (1, .ref 3), (2, .ref 64), (3, .ref k3), (4, .int (0 : Int32)), (5, .int (0 : Int32))], [], (I, L))) h1 rfl ?_
  refine xe_go 1 (s' := (15, [(0, .ref 76), (1, .ref 3), (2, .ref 64), (3, .ref k3), (4, .int (0 : Int32)), (5, .int (0 : Int32))], [.ref 64, .ref 3], (I, L))) rfl ?_
  refine xe_vir (n := 2) (f := fx_X7_takeMan) rfl (Nat.le_of_ble_eq_true rfl) (List.mem_of_getElem? (i := 0) rfl) (Nat.le_of_ble_eq_true rfl) c1 ?_
  refine xe_go 1 (s' := (22, [(0, .ref 76), (1, .ref 3), (2, .ref 64), (3, .ref k3), (4, .int (0 : Int32)), (5, .int (0 : Int32))], [.int (0 : Int32)], (I1, L1))) rfl ?_
  exact xe_end rfl rfl rfl
set_option maxRecDepth 100000 in
theorem pt_X8_readSimple_2 {k3 : Nat} {I I1 I2 I3 I4 : Nat → Nat → Int32} {L L1 L2 L3 L4 : Nat → Nat → Int64} (h1 : (Nat.beq k3 219) = false) (c1 : fx_X2_isMeasure [.ref k3] (I, L) (some (.int 1)) (I1, L1)) (c2 : fx_X7_takeCompare [.ref 3] (I1, L1) (some (.int 1)) (I2, L2)) (c3 : fx_X7_takeNumber [.int (999 : Int32), .int (0 : Int32), .ref 3] (I2, L2) (some (.int 1)) (I3, L3)) (c4 : fx_X8_add [.int (I3 3 8), .int (I2 3 8), .ref k3, .ref 76] (I3, L3) none (I4, L4)) : ∃ n, xr_X8_readSimple n (0, [(0, .ref 76), (1, .ref 3), (2, .ref 64), (3, .ref k3)], [], (I, L)) (some (.int (1 : Int32))) (I4, L4) := by
  refine xe_bF 6 (A := (13, [(0, .ref 76), (1, .ref 3), (2, .ref 64), (3, .ref k3), (4, .int (0 : Int32)), (5, .int (0 : Int32))], [], (I, L))) (B := (32, [(0, .ref 76), (1, .ref 3), (2, .ref 64), (3, .ref k3), (4, .int (0 : Int32)), (5, .int (0 : Int32))], [], (I, L))) h1 rfl ?_
  refine xe_go 0 (s' := (33, [(0, .ref 76), (1, .ref 3), (2, .ref 64), (3, .ref k3), (4, .int (0 : Int32)), (5, .int (0 : Int32))], [.ref k3], (I, L))) rfl ?_
  refine xe_vir (n := 1) (f := fx_X2_isMeasure) rfl (Nat.le_of_ble_eq_true rfl) (List.mem_of_getElem? (i := 1) rfl) (Nat.le_of_ble_eq_true rfl) c1 ?_
  refine xe_go 1 (s' := (40, [(0, .ref 76), (1, .ref 3), (2, .ref 64), (3, .ref k3), (4, .int (0 : Int32)), (5, .int (0 : Int32))], [.ref 3], (I1, L1))) rfl ?_
  refine xe_vir (n := 1) (f := fx_X7_takeCompare) rfl (Nat.le_of_ble_eq_true rfl) (List.mem_of_getElem? (i := 2) rfl) (Nat.le_of_ble_eq_true rfl) c2 ?_
  refine xe_go 6 (s' := (59, [(0, .ref 76), (1, .ref 3), (2, .ref 64), (3, .ref k3), (4, .int (I2 3 8)), (5, .int (0 : Int32))], [.int (999 : Int32), .int (0 : Int32), .ref 3], (I2, L2))) rfl ?_
  refine xe_vir (n := 3) (f := fx_X7_takeNumber) rfl (Nat.le_of_ble_eq_true rfl) (List.mem_of_getElem? (i := 3) rfl) (Nat.le_of_ble_eq_true rfl) c3 ?_
  refine xe_go 7 (s' := (79, [(0, .ref 76), (1, .ref 3), (2, .ref 64), (3, .ref k3), (4, .int (I2 3 8)), (5, .int (I3 3 8))], [.int (I3 3 8), .int (I2 3 8), .ref k3, .ref 76], (I3, L3))) rfl ?_
  refine xe_vir (n := 4) (f := fx_X8_add) rfl (Nat.le_of_ble_eq_true rfl) (List.mem_of_getElem? (i := 4) rfl) (Nat.le_of_ble_eq_true rfl) c4 ?_
  refine xe_go 0 (s' := (83, [(0, .ref 76), (1, .ref 3), (2, .ref 64), (3, .ref k3), (4, .int (I2 3 8)), (5, .int (I3 3 8))], [.int (1 : Int32)], (I4, L4))) rfl ?_
  exact xe_end rfl rfl rfl
set_option maxRecDepth 100000 in
theorem pt_X8_readSimple_3 {k3 : Nat} {I I1 I2 I3 : Nat → Nat → Int32} {L L1 L2 L3 : Nat → Nat → Int64} (h1 : (Nat.beq k3 219) = false) (c1 : fx_X2_isMeasure [.ref k3] (I, L) (some (.int 1)) (I1, L1)) (c2 : fx_X7_takeCompare [.ref 3] (I1, L1) (some (.int 1)) (I2, L2)) (c3 : fx_X7_takeNumber [.int (999 : Int32), .int (0 : Int32), .ref 3] (I2, L2) (some (.int 0)) (I3, L3)) : ∃ n, xr_X8_readSimple n (0, [(0, .ref 76), (1, .ref 3), (2, .ref 64), (3, .ref k3)], [], (I, L)) (some (.int (0 : Int32))) (I3, L3) := by
  refine xe_bF 6 (A := (13, [(0, .ref 76), (1, .ref 3), (2, .ref 64), (3, .ref k3), (4, .int (0 : Int32)), (5, .int (0 : Int32))], [], (I, L))) (B := (32, [(0, .ref 76), (1, .ref 3), (2, .ref 64), (3, .ref k3), (4, .int (0 : Int32)), (5, .int (0 : Int32))], [], (I, L))) h1 rfl ?_
  refine xe_go 0 (s' := (33, [(0, .ref 76), (1, .ref 3), (2, .ref 64), (3, .ref k3), (4, .int (0 : Int32)), (5, .int (0 : Int32))], [.ref k3], (I, L))) rfl ?_
  refine xe_vir (n := 1) (f := fx_X2_isMeasure) rfl (Nat.le_of_ble_eq_true rfl) (List.mem_of_getElem? (i := 1) rfl) (Nat.le_of_ble_eq_true rfl) c1 ?_
  refine xe_go 1 (s' := (40, [(0, .ref 76), (1, .ref 3), (2, .ref 64), (3, .ref k3), (4, .int (0 : Int32)), (5, .int (0 : Int32))], [.ref 3], (I1, L1))) rfl ?_
  refine xe_vir (n := 1) (f := fx_X7_takeCompare) rfl (Nat.le_of_ble_eq_true rfl) (List.mem_of_getElem? (i := 2) rfl) (Nat.le_of_ble_eq_true rfl) c2 ?_
  refine xe_go 6 (s' := (59, [(0, .ref 76), (1, .ref 3), (2, .ref 64), (3, .ref k3), (4, .int (I2 3 8)), (5, .int (0 : Int32))], [.int (999 : Int32), .int (0 : Int32), .ref 3], (I2, L2))) rfl ?_
  refine xe_vir (n := 3) (f := fx_X7_takeNumber) rfl (Nat.le_of_ble_eq_true rfl) (List.mem_of_getElem? (i := 3) rfl) (Nat.le_of_ble_eq_true rfl) c3 ?_
  refine xe_go 1 (s' := (66, [(0, .ref 76), (1, .ref 3), (2, .ref 64), (3, .ref k3), (4, .int (I2 3 8)), (5, .int (0 : Int32))], [.int (0 : Int32)], (I3, L3))) rfl ?_
  exact xe_end rfl rfl rfl
set_option maxRecDepth 100000 in
theorem pt_X8_readSimple_4 {k3 : Nat} {I I1 I2 : Nat → Nat → Int32} {L L1 L2 : Nat → Nat → Int64} (h1 : (Nat.beq k3 219) = false) (c1 : fx_X2_isMeasure [.ref k3] (I, L) (some (.int 1)) (I1, L1)) (c2 : fx_X7_takeCompare [.ref 3] (I1, L1) (some (.int 0)) (I2, L2)) : ∃ n, xr_X8_readSimple n (0, [(0, .ref 76), (1, .ref 3), (2, .ref 64), (3, .ref k3)], [], (I, L)) (some (.int (0 : Int32))) (I2, L2) := by
  refine xe_bF 6 (A := (13, [(0, .ref 76), (1, .ref 3), (2, .ref 64), (3, .ref k3), (4, .int (0 : Int32)), (5, .int (0 : Int32))], [], (I, L))) (B := (32, [(0, .ref 76), (1, .ref 3), (2, .ref 64), (3, .ref k3), (4, .int (0 : Int32)), (5, .int (0 : Int32))], [], (I, L))) h1 rfl ?_
  refine xe_go 0 (s' := (33, [(0, .ref 76), (1, .ref 3), (2, .ref 64), (3, .ref k3), (4, .int (0 : Int32)), (5, .int (0 : Int32))], [.ref k3], (I, L))) rfl ?_
  refine xe_vir (n := 1) (f := fx_X2_isMeasure) rfl (Nat.le_of_ble_eq_true rfl) (List.mem_of_getElem? (i := 1) rfl) (Nat.le_of_ble_eq_true rfl) c1 ?_
  refine xe_go 1 (s' := (40, [(0, .ref 76), (1, .ref 3), (2, .ref 64), (3, .ref k3), (4, .int (0 : Int32)), (5, .int (0 : Int32))], [.ref 3], (I1, L1))) rfl ?_
  refine xe_vir (n := 1) (f := fx_X7_takeCompare) rfl (Nat.le_of_ble_eq_true rfl) (List.mem_of_getElem? (i := 2) rfl) (Nat.le_of_ble_eq_true rfl) c2 ?_
  refine xe_go 1 (s' := (47, [(0, .ref 76), (1, .ref 3), (2, .ref 64), (3, .ref k3), (4, .int (0 : Int32)), (5, .int (0 : Int32))], [.int (0 : Int32)], (I2, L2))) rfl ?_
  exact xe_end rfl rfl rfl
set_option maxRecDepth 100000 in
theorem pt_X8_readSimple_5 {k3 : Nat} {I I1 I2 : Nat → Nat → Int32} {L L1 L2 : Nat → Nat → Int64} (h1 : (Nat.beq k3 219) = false) (c1 : fx_X2_isMeasure [.ref k3] (I, L) (some (.int 0)) (I1, L1)) (c2 : fx_X8_add [.int (0 : Int32), .int (0 : Int32), .ref k3, .ref 76] (I1, L1) none (I2, L2)) : ∃ n, xr_X8_readSimple n (0, [(0, .ref 76), (1, .ref 3), (2, .ref 64), (3, .ref k3)], [], (I, L)) (some (.int (1 : Int32))) (I2, L2) := by
  refine xe_bF 6 (A := (13, [(0, .ref 76), (1, .ref 3), (2, .ref 64), (3, .ref k3), (4, .int (0 : Int32)), (5, .int (0 : Int32))], [], (I, L))) (B := (32, [(0, .ref 76), (1, .ref 3), (2, .ref 64), (3, .ref k3), (4, .int (0 : Int32)), (5, .int (0 : Int32))], [], (I, L))) h1 rfl ?_
  refine xe_go 0 (s' := (33, [(0, .ref 76), (1, .ref 3), (2, .ref 64), (3, .ref k3), (4, .int (0 : Int32)), (5, .int (0 : Int32))], [.ref k3], (I, L))) rfl ?_
  refine xe_vir (n := 1) (f := fx_X2_isMeasure) rfl (Nat.le_of_ble_eq_true rfl) (List.mem_of_getElem? (i := 1) rfl) (Nat.le_of_ble_eq_true rfl) c1 ?_
  refine xe_go 4 (s' := (79, [(0, .ref 76), (1, .ref 3), (2, .ref 64), (3, .ref k3), (4, .int (0 : Int32)), (5, .int (0 : Int32))], [.int (0 : Int32), .int (0 : Int32), .ref k3, .ref 76], (I1, L1))) rfl ?_
  refine xe_vir (n := 4) (f := fx_X8_add) rfl (Nat.le_of_ble_eq_true rfl) (List.mem_of_getElem? (i := 4) rfl) (Nat.le_of_ble_eq_true rfl) c2 ?_
  refine xe_go 0 (s' := (83, [(0, .ref 76), (1, .ref 3), (2, .ref 64), (3, .ref k3), (4, .int (0 : Int32)), (5, .int (0 : Int32))], [.int (1 : Int32)], (I2, L2))) rfl ?_
  exact xe_end rfl rfl rfl
def xi_X8_readOne : List (Nat × Nat × Instr) := [(0, 1, .aload_n 1), (1, 3, .invokevirtual 59), (4, 2, .astore 4), (6, 1, .aload_n 1), (7, 2, .bipush 40), (9, 3, .invokevirtual 79), (12, 2, .istore 5), (14, 2, .iload 5), (16, 3, .ifCond .ne 41), (19, 2, .aload 4), (21, 3, .getstatic 82), (24, 3, .if_acmp .eq 33), (27, 2, .aload 4), (29, 3, .getstatic 85), (32, 3, .if_acmp .eq 25), (35, 2, .aload 4), (37, 3, .invokevirtual 88), (40, 3, .ifCond .ne 17), (43, 2, .aload 4), (45, 3, .invokevirtual 92), (48, 3, .ifCond .ne 9), (51, 1, .aload_n 1), (52, 1, .iconst 1), (53, 3, .invokevirtual 52), (56, 1, .ireturn), (57, 1, .aload_n 0), (58, 3, .getfield 33), (61, 2, .bipush 20), (63, 3, .if_icmp .ge 9), (66, 1, .iload_n 3), (67, 2, .bipush 8), (69, 3, .if_icmp .le 9), (72, 1, .aload_n 1), (73, 1, .iconst 4), (74, 3, .invokevirtual 52), (77, 1, .ireturn), (78, 1, .aload_n 0), (79, 1, .dup), (80, 3, .getfield 33), (83, 1, .iconst 1), (84, 1, .iadd), (85, 3, .putfield 33), (88, 1, .aload_n 1), (89, 3, .invokevirtual 66), (92, 2, .iload 5), (94, 3, .ifCond .eq 30), (97, 1, .aload_n 0), (98, 1, .aload_n 1), (99, 1, .aload_n 2), (100, 1, .iload_n 3), (101, 1, .iconst 1), (102, 1, .iadd), (103, 3, .invokevirtual 45), (106, 3, .ifCond .eq 16), (109, 1, .aload_n 1), (110, 2, .bipush 41), (112, 3, .invokevirtual 95), (115, 3, .ifCond .eq 7), (118, 1, .iconst 1), (119, 3, .goto 4), (122, 1, .iconst 0), (123, 1, .ireturn), (124, 2, .aload 4), (126, 3, .getstatic 82), (129, 3, .if_acmp .ne 26), (132, 1, .aload_n 0), (133, 1, .aload_n 1), (134, 1, .aload_n 2), (135, 1, .iload_n 3), (136, 1, .iconst 1), (137, 1, .iadd), (138, 3, .invokevirtual 73), (141, 2, .istore 6), (143, 1, .aload_n 0), (144, 3, .getstatic 82), (147, 1, .iconst 0), (148, 1, .iconst 0), (149, 3, .invokevirtual 69), (152, 2, .iload 6), (154, 1, .ireturn), (155, 1, .aload_n 0), (156, 1, .aload_n 1), (157, 1, .aload_n 2), (158, 2, .aload 4), (160, 3, .invokevirtual 98), (163, 1, .ireturn)]
def xg_X8_readOne : zf_ft := [(33, 6, 5, .inl (0, 0))]
def xp_X8_readOne : zf_ft := [(33, 6, 5, .inl ((-2147483648), 2147483647))]
def xv_X8_readOne (fC : xe_F) (fO : xe_F) : List (Nat × Nat × xe_F) := [(59, 1, fx_X7_key), (79, 2, fx_X7_isSign), (88, 1, fx_X2_isPlain), (92, 1, fx_X2_isMeasure), (52, 2, fx_X7_fail), (66, 1, fx_X7_step), (45, 4, fC), (95, 2, fx_X7_takeSign), (73, 4, fO), (69, 4, fx_X8_add), (98, 4, fx_X8_readSimple)]
def xt_X8_readOne : List (Nat × Nat × xe_F) := []
abbrev xr_X8_readOne (fC : xe_F) (fO : xe_F) := xe_run xGT xSC xRF 7 xg_X8_readOne xp_X8_readOne [(82, 215), (85, 219)] [] (xv_X8_readOne fC fO) xt_X8_readOne xi_X8_readOne
def fx_X8_readOne (fC : xe_F) (fO : xe_F) : xe_F := fun us hp v hp' => (us.map fun v => v.category).sum ≤ 7 ∧ xe_rt (some .boolean) v ∧ (∃ ar, us = ar ++ [.ref 76]) ∧ ∃ n, xr_X8_readOne fC fO n (0, xe_ag 0 us.reverse, [], hp) v hp'
theorem mk_X8_readOne {fC : xe_F} {fO : xe_F} {a3 : Int32} {hp hp' : xe_H} {v : Option Value} (hr : xe_rt (some .boolean) v) (h : ∃ n, xr_X8_readOne fC fO n (0, [(0, .ref 76), (1, .ref 3), (2, .ref 64), (3, .int a3)], [], hp) v hp') : fx_X8_readOne fC fO [.int a3, .ref 64, .ref 3, .ref 76] hp v hp' := ⟨Nat.le_of_ble_eq_true rfl, hr, ⟨[.int a3, .ref 64, .ref 3], rfl⟩, h⟩
theorem hx_X8_readOne {fC : xe_F} {fO : xe_F} : ∀ us hp v hp', fx_X8_readOne fC fO us hp v hp' → (us.map fun v => v.category).sum ≤ 7 ∧ xe_rt (some .boolean) v ∧ ∃ n, xr_X8_readOne fC fO n (0, xe_ag 0 us.reverse, [], hp) v hp' := fun us hp v hp' h => ⟨h.1, h.2.1, h.2.2.2⟩
theorem fr_X8_readOne {fC : xe_F} {fO : xe_F} : ∀ us hp v hp', fx_X8_readOne fC fO us hp v hp' → ∃ ar, us = ar ++ [.ref 76] := fun us hp v hp' h => h.2.2.1
set_option maxRecDepth 100000 in
set_option maxHeartbeats 4000000 in
theorem kx_X8_readOne (l : Launch) (D : va_G) (k : Nat → ClassId) (B0 : Nat) (ad : Nat → Nat) (al sw : Nat) (F9 L9 : Nat) (hF : 8 ≤ F9) (hL : 200 ≤ L9) {fC : xe_F} {fO : xe_F} (rfC : ∀ us hp v hp', fC us hp v hp' → ∃ ar, us = ar ++ [.ref 76]) (kfC : xe_Con l yX8_readCond (zw yX8_readCond cX8_readCond 5 (some .boolean)) ({ frames := F9, cells := 0, slots := 0, locals := L9 }) D k ad (zEx B0 ad al sw) xGT xSC xRF fC) (rfO : ∀ us hp v hp', fO us hp v hp' → ∃ ar, us = ar ++ [.ref 76]) (kfO : xe_Con l yX8_readOne (zw yX8_readOne cX8_readOne 7 (some .boolean)) ({ frames := F9, cells := 0, slots := 0, locals := L9 }) D k ad (zEx B0 ad al sw) xGT xSC xRF fO) : xe_Con l yX8_readOne (zw yX8_readOne cX8_readOne 7 (some .boolean)) ({ frames := F9 + 1, cells := 0, slots := 0, locals := L9 + 30 }) D k ad (zEx B0 ad al sw) xGT xSC xRF (fx_X8_readOne fC fO) := by
  have hEx := zEx_ok B0 ad al sw
  refine xe_mk (cc := cX8_readOne) (nL := 7) (ret := (some .boolean)) (fg := xg_X8_readOne) (fp := xp_X8_readOne) (sg := [(82, 215), (85, 219)]) (lc := []) (cv := xv_X8_readOne fC fO) (cs := xt_X8_readOne) (ins := xi_X8_readOne) (by decide) rfl hEx (by decide +kernel) hx_X8_readOne ?_
  intro p e s m args below meth c Q Sg w0 A θ S hK hE hAB hA hth
  refine ⟨?_, ?_, ?_, ?_, ?_, ?_⟩
  · exact zf_ac ((fun H locs ws a q0 fs v rest pc ls hP he hv hdg kk => va_get (D := D) (ci := 6) (C := RX8) (T := TX8) (N := 6) (own := RX8) S.1 S.2.1 S.2.2.2.2 (zg_in inW_X8) S.2.2.2.1 hK hP q0 he rfl 5 (by decide) (S.2.2.2.2 (.fieldLink RX8 33 "RungMoney$Sentence" "ones" "I") (List.mem_cons_of_mem _ zw_318)) (fun _ h9 => h9) hv hdg kk)) zf_an
  · exact zf_ac ((fun H locs ws a q0 fs v rest pc ls hP hD hS he hl hv hdg kk => by obtain ⟨x, rfl, h1, h2⟩ := hv; exact va_put (D := D) (ci := 6) (v := .int x) (ty := .int) (C := RX8) (T := TX8) (N := 6) (own := RX8) S.1 S.2.1 S.2.2.2.2 (zg_in inW_X8) tyX8 tyX8_ok nmX8 S.2.2.2.1 hK hP hD hS q0 he rfl 5 (by decide) (S.2.2.2.2 (.fieldLink RX8 33 "RungMoney$Sentence" "ones" "I") (List.mem_cons_of_mem _ zw_318)) (fun _ h9 => h9) rfl (by decide +kernel) rfl rfl hl hdg kk)) zf_an
  · exact xe_a2 ((fun H locs rest pc ls hS hdg kk => va_gets (C := RX2) (n := "NOT") (d := zkD) (v := .ref (θ 215)) S.1 S.2.1 (by rw [(hth.2 15 (by decide)).1]; exact (hE.2.2.2.1.1 15 (by decide)).1.narrow hAB) hS S.2.2.2.1 (S.2.2.2.2 (.fieldLink RX8 82 "RungMoney$Key" "NOT" "LRungMoney$Key;") (List.mem_cons_of_mem _ zw_1122)) (fun _ h9 => h9) hdg (kk (by show Sg (θ 215) = some 128; rw [(hth.2 15 (by decide)).1]; exact (hth.2 15 (by decide)).2)))) (xe_a2 ((fun H locs rest pc ls hS hdg kk => va_gets (C := RX2) (n := "OF") (d := zkD) (v := .ref (θ 219)) S.1 S.2.1 (by rw [(hth.2 19 (by decide)).1]; exact (hE.2.2.2.1.1 19 (by decide)).1.narrow hAB) hS S.2.2.2.1 (S.2.2.2.2 (.fieldLink RX8 85 "RungMoney$Key" "OF" "LRungMoney$Key;") (List.mem_cons_of_mem _ zw_1124)) (fun _ h9 => h9) hdg (kk (by show Sg (θ 219) = some 128; rw [(hth.2 19 (by decide)).1]; exact (hth.2 19 (by decide)).2)))) xe_n2)
  · exact xe_n3
  · exact xe_a4 (xe_crV S hEx hE hAB hA hK hth (kx_X7_key l D k B0 ad al sw) (cwV 0 S.2.2.2.2 (zg_V zw_1120 zw_510 zw_511 zw_97 zw_512) rfl rfl rfl (by decide +kernel) ⟨(by show 1 + 1 ≤ F9 + 1; omega), (by show 8 + (1 + 11) + 22 ≤ L9 + 30; omega)⟩) ⟨(Nat.le_of_ble_eq_true rfl), (Nat.le_of_ble_eq_true rfl)⟩ 5 rfl rfl 3 (by decide +kernel) fr_X7_key) (xe_a4 (xe_crV S hEx hE hAB hA hK hth (kx_X7_isSign l D k B0 ad al sw) (cwV 1 S.2.2.2.2 (zg_V zw_1121 zw_605 zw_606 zw_97 zw_607) rfl rfl rfl (by decide +kernel) ⟨(by show 0 + 1 ≤ F9 + 1; omega), (by show 8 + (2 + 11) + 0 ≤ L9 + 30; omega)⟩) ⟨(Nat.le_of_ble_eq_true rfl), (Nat.le_of_ble_eq_true rfl)⟩ 5 rfl rfl 3 (by decide +kernel) fr_X7_isSign) (xe_a4 (xe_crVK S hE hAB hA hK hth (kx_X2_isPlain l D k B0 ad al sw) (cwV 0 S.2.2.2.2 (zg_V zw_1126 zw_1127 zw_1128 zw_104 zw_1129) rfl rfl rfl (by decide +kernel) ⟨(by show 0 + 1 ≤ F9 + 1; omega), (by show 8 + (1 + 11) + 0 ≤ L9 + 30; omega)⟩) ⟨(Nat.le_of_ble_eq_true rfl), (Nat.le_of_ble_eq_true rfl)⟩ fr_X2_isPlain) (xe_a4 (xe_crVK S hE hAB hA hK hth (kx_X2_isMeasure l D k B0 ad al sw) (cwV 0 S.2.2.2.2 (zg_V zw_1136 zw_1137 zw_1138 zw_104 zw_1139) rfl rfl rfl (by decide +kernel) ⟨(by show 0 + 1 ≤ F9 + 1; omega), (by show 8 + (1 + 11) + 0 ≤ L9 + 30; omega)⟩) ⟨(Nat.le_of_ble_eq_true rfl), (Nat.le_of_ble_eq_true rfl)⟩ fr_X2_isMeasure) (xe_a4 (xe_crV S hEx hE hAB hA hK hth (kx_X7_fail l D k B0 ad al sw) (cwV 1 S.2.2.2.2 (zg_V zw_1148 zw_526 zw_527 zw_97 zw_528) rfl rfl rfl (by decide +kernel) ⟨(by show 0 + 1 ≤ F9 + 1; omega), (by show 8 + (2 + 11) + 0 ≤ L9 + 30; omega)⟩) ⟨(Nat.le_of_ble_eq_true rfl), (Nat.le_of_ble_eq_true rfl)⟩ 5 rfl rfl 3 (by decide +kernel) fr_X7_fail) (xe_a4 (xe_crV S hEx hE hAB hA hK hth (kx_X7_step l D k B0 ad al sw) (cwV 0 S.2.2.2.2 (zg_V zw_1149 zw_494 zw_495 zw_97 zw_496) rfl rfl rfl (by decide +kernel) ⟨(by show 1 + 1 ≤ F9 + 1; omega), (by show 8 + (1 + 11) + 24 ≤ L9 + 30; omega)⟩) ⟨(Nat.le_of_ble_eq_true rfl), (Nat.le_of_ble_eq_true rfl)⟩ 5 rfl rfl 3 (by decide +kernel) fr_X7_step) (xe_a4 (xe_crV S hEx hE hAB hA hK hth kfC (cwV 3 S.2.2.2.2 (zg_V zw_1108 zw_1110 zw_16 zw_102 zw_1111) rfl rfl rfl (by decide +kernel) ⟨(by show F9 + 1 ≤ F9 + 1; omega), (by show 8 + (5 + 11) + L9 ≤ L9 + 30; omega)⟩) ⟨(Nat.le_of_ble_eq_true rfl), (Nat.le_of_ble_eq_true rfl)⟩ 6 rfl rfl 76 (by decide +kernel) rfC) (xe_a4 (xe_crV S hEx hE hAB hA hK hth (kx_X7_takeSign l D k B0 ad al sw) (cwV 1 S.2.2.2.2 (zg_V zw_1150 zw_601 zw_602 zw_97 zw_603) rfl rfl rfl (by decide +kernel) ⟨(by show 2 + 1 ≤ F9 + 1; omega), (by show 8 + (2 + 11) + 44 ≤ L9 + 30; omega)⟩) ⟨(Nat.le_of_ble_eq_true rfl), (Nat.le_of_ble_eq_true rfl)⟩ 5 rfl rfl 3 (by decide +kernel) fr_X7_takeSign) (xe_a4 (xe_crV S hEx hE hAB hA hK hth kfO (cwV 3 S.2.2.2.2 (zg_V zw_1116 zw_1118 zw_18 zw_102 zw_1119) rfl rfl rfl (by decide +kernel) ⟨(by show F9 + 1 ≤ F9 + 1; omega), (by show 8 + (7 + 11) + L9 ≤ L9 + 30; omega)⟩) ⟨(Nat.le_of_ble_eq_true rfl), (Nat.le_of_ble_eq_true rfl)⟩ 6 rfl rfl 76 (by decide +kernel) rfO) (xe_a4 (xe_crV S hEx hE hAB hA hK hth (kx_X8_add l D k B0 ad al sw) (cwV 3 S.2.2.2.2 (zg_V zw_1151 zw_1153 zw_19 zw_102 zw_1154) rfl rfl rfl (by decide +kernel) ⟨(by show 0 + 1 ≤ F9 + 1; omega), (by show 8 + (4 + 11) + 0 ≤ L9 + 30; omega)⟩) ⟨(Nat.le_of_ble_eq_true rfl), (Nat.le_of_ble_eq_true rfl)⟩ 6 rfl rfl 76 (by decide +kernel) fr_X8_add) (xe_a4 (xe_crV S hEx hE hAB hA hK hth (kx_X8_readSimple l D k B0 ad al sw) (cwV 3 S.2.2.2.2 (zg_V zw_1155 zw_1157 zw_20 zw_102 zw_1158) rfl rfl rfl (by decide +kernel) ⟨(by show 3 + 1 ≤ F9 + 1; omega), (by show 8 + (6 + 11) + 66 ≤ L9 + 30; omega)⟩) ⟨(Nat.le_of_ble_eq_true rfl), (Nat.le_of_ble_eq_true rfl)⟩ 6 rfl rfl 76 (by decide +kernel) fr_X8_readSimple) xe_n4))))))))))
  · exact xe_n4
set_option maxRecDepth 100000 in
theorem pt_X8_readOne_0 {fC : xe_F} {fO : xe_F} {a3 : Int32} {I I1 I2 I3 : Nat → Nat → Int32} {L L1 L2 L3 : Nat → Nat → Int64} {k1 : Nat} (c1 : fx_X7_key [.ref 3] (I, L) (some (.ref k1)) (I1, L1)) (c2 : fx_X7_isSign [.int (40 : Int32), .ref 3] (I1, L1) (some (.int 1)) (I2, L2)) (h1 : (xe_cmp .ge (I2 76 5) (20 : Int32)) = true) (c3 : fx_X7_fail [.int (4 : Int32), .ref 3] (I2, L2) (some (.int 0)) (I3, L3)) : ∃ n, xr_X8_readOne fC fO n (0, [(0, .ref 76), (1, .ref 3), (2, .ref 64), (3, .int a3)], [], (I, L)) (some (.int 0)) (I3, L3) := by
  refine xe_go 0 (s' := (1, [(0, .ref 76), (1, .ref 3), (2, .ref 64), (3, .int a3)], [.ref 3], (I, L))) rfl ?_
  refine xe_vir (n := 1) (f := fx_X7_key) rfl (Nat.le_of_ble_eq_true rfl) (List.mem_of_getElem? (i := 0) rfl) (Nat.le_of_ble_eq_true rfl) c1 ?_
  refine xe_go 2 (s' := (9, [(0, .ref 76), (1, .ref 3), (2, .ref 64), (3, .int a3), (4, .ref k1)], [.int (40 : Int32), .ref 3], (I1, L1))) rfl ?_
  refine xe_vir (n := 2) (f := fx_X7_isSign) rfl (Nat.le_of_ble_eq_true rfl) (List.mem_of_getElem? (i := 1) rfl) (Nat.le_of_ble_eq_true rfl) c2 ?_
  refine xe_bT 6 (A := (72, [(0, .ref 76), (1, .ref 3), (2, .ref 64), (3, .int a3), (4, .ref k1), (5, .int 1)], [], (I2, L2))) (B := (66, [(0, .ref 76), (1, .ref 3), (2, .ref 64), (3, .int a3), (4, .ref k1), (5, .int 1)], [], (I2, L2))) h1 rfl ?_
  refine xe_go 1 (s' := (74, [(0, .ref 76), (1, .ref 3), (2, .ref 64), (3, .int a3), (4, .ref k1), (5, .int 1)], [.int (4 : Int32), .ref 3], (I2, L2))) rfl ?_
  refine xe_vir (n := 2) (f := fx_X7_fail) rfl (Nat.le_of_ble_eq_true rfl) (List.mem_of_getElem? (i := 4) rfl) (Nat.le_of_ble_eq_true rfl) c3 ?_
  exact xe_end rfl rfl rfl
set_option maxRecDepth 100000 in
theorem pt_X8_readOne_1 {fC : xe_F} {fO : xe_F} {a3 : Int32} {I I1 I2 I3 I4 I5 : Nat → Nat → Int32} {L L1 L2 L3 L4 L5 : Nat → Nat → Int64} {k1 : Nat} (c1 : fx_X7_key [.ref 3] (I, L) (some (.ref k1)) (I1, L1)) (c2 : fx_X7_isSign [.int (40 : Int32), .ref 3] (I1, L1) (some (.int 1)) (I2, L2)) (h1 : (xe_cmp .ge (I2 76 5) (20 : Int32)) = false) (h2 : (xe_cmp .le a3 (8 : Int32)) = true) (c3 : fx_X7_step [.ref 3] ((xu I2 76 5 ((I2 76 5) + (1 : Int32))), L2) none (I3, L3)) (c4 : fC [.int (a3 + (1 : Int32)), .ref 64, .ref 3, .ref 76] (I3, L3) (some (.int 1)) (I4, L4)) (c5 : fx_X7_takeSign [.int (41 : Int32), .ref 3] (I4, L4) (some (.int 1)) (I5, L5)) : ∃ n, xr_X8_readOne fC fO n (0, [(0, .ref 76), (1, .ref 3), (2, .ref 64), (3, .int a3)], [], (I, L)) (some (.int (1 : Int32))) (I5, L5) := by
  refine xe_go 0 (s' := (1, [(0, .ref 76), (1, .ref 3), (2, .ref 64), (3, .int a3)], [.ref 3], (I, L))) rfl ?_
  refine xe_vir (n := 1) (f := fx_X7_key) rfl (Nat.le_of_ble_eq_true rfl) (List.mem_of_getElem? (i := 0) rfl) (Nat.le_of_ble_eq_true rfl) c1 ?_
  refine xe_go 2 (s' := (9, [(0, .ref 76), (1, .ref 3), (2, .ref 64), (3, .int a3), (4, .ref k1)], [.int (40 : Int32), .ref 3], (I1, L1))) rfl ?_
  refine xe_vir (n := 2) (f := fx_X7_isSign) rfl (Nat.le_of_ble_eq_true rfl) (List.mem_of_getElem? (i := 1) rfl) (Nat.le_of_ble_eq_true rfl) c2 ?_
  refine xe_bF 6 (A := (72, [(0, .ref 76), (1, .ref 3), (2, .ref 64), (3, .int a3), (4, .ref k1), (5, .int 1)], [], (I2, L2))) (B := (66, [(0, .ref 76), (1, .ref 3), (2, .ref 64), (3, .int a3), (4, .ref k1), (5, .int 1)], [], (I2, L2))) h1 rfl ?_
  refine xe_bT 2 (A := (78, [(0, .ref 76), (1, .ref 3), (2, .ref 64), (3, .int a3), (4, .ref k1), (5, .int 1)], [], (I2, L2))) (B := (72, [(0, .ref 76), (1, .ref 3), (2, .ref 64), (3, .int a3), (4, .ref k1), (5, .int 1)], [], (I2, L2))) h2 rfl ?_
  refine xe_go 6 (s' := (89, [(0, .ref 76), (1, .ref 3), (2, .ref 64), (3, .int a3), (4, .ref k1), (5, .int 1)], [.ref 3], ((xu I2 76 5 ((I2 76 5) + (1 : Int32))), L2))) rfl ?_
  refine xe_vir (n := 1) (f := fx_X7_step) rfl (Nat.le_of_ble_eq_true rfl) (List.mem_of_getElem? (i := 5) rfl) (Nat.le_of_ble_eq_true rfl) c3 ?_
  refine xe_go 7 (s' := (103, [(0, .ref 76), (1, .ref 3), (2, .ref 64), (3, .int a3), (4, .ref k1), (5, .int 1)], [.int (a3 + (1 : Int32)), .ref 64, .ref 3, .ref 76], (I3, L3))) rfl ?_
  refine xe_vir (n := 4) (f := fC) rfl (Nat.le_of_ble_eq_true rfl) (List.mem_of_getElem? (i := 6) rfl) (Nat.le_of_ble_eq_true rfl) c4 ?_
  refine xe_go 2 (s' := (112, [(0, .ref 76), (1, .ref 3), (2, .ref 64), (3, .int a3), (4, .ref k1), (5, .int 1)], [.int (41 : Int32), .ref 3], (I4, L4))) rfl ?_
  refine xe_vir (n := 2) (f := fx_X7_takeSign) rfl (Nat.le_of_ble_eq_true rfl) (List.mem_of_getElem? (i := 7) rfl) (Nat.le_of_ble_eq_true rfl) c5 ?_
  refine xe_go 2 (s' := (123, [(0, .ref 76), (1, .ref 3), (2, .ref 64), (3, .int a3), (4, .ref k1), (5, .int 1)], [.int (1 : Int32)], (I5, L5))) rfl ?_
  exact xe_end rfl rfl rfl
set_option maxRecDepth 100000 in
theorem pt_X8_readOne_2 {fC : xe_F} {fO : xe_F} {a3 : Int32} {I I1 I2 I3 I4 I5 : Nat → Nat → Int32} {L L1 L2 L3 L4 L5 : Nat → Nat → Int64} {k1 : Nat} (c1 : fx_X7_key [.ref 3] (I, L) (some (.ref k1)) (I1, L1)) (c2 : fx_X7_isSign [.int (40 : Int32), .ref 3] (I1, L1) (some (.int 1)) (I2, L2)) (h1 : (xe_cmp .ge (I2 76 5) (20 : Int32)) = false) (h2 : (xe_cmp .le a3 (8 : Int32)) = true) (c3 : fx_X7_step [.ref 3] ((xu I2 76 5 ((I2 76 5) + (1 : Int32))), L2) none (I3, L3)) (c4 : fC [.int (a3 + (1 : Int32)), .ref 64, .ref 3, .ref 76] (I3, L3) (some (.int 1)) (I4, L4)) (c5 : fx_X7_takeSign [.int (41 : Int32), .ref 3] (I4, L4) (some (.int 0)) (I5, L5)) : ∃ n, xr_X8_readOne fC fO n (0, [(0, .ref 76), (1, .ref 3), (2, .ref 64), (3, .int a3)], [], (I, L)) (some (.int (0 : Int32))) (I5, L5) := by
  refine xe_go 0 (s' := (1, [(0, .ref 76), (1, .ref 3), (2, .ref 64), (3, .int a3)], [.ref 3], (I, L))) rfl ?_
  refine xe_vir (n := 1) (f := fx_X7_key) rfl (Nat.le_of_ble_eq_true rfl) (List.mem_of_getElem? (i := 0) rfl) (Nat.le_of_ble_eq_true rfl) c1 ?_
  refine xe_go 2 (s' := (9, [(0, .ref 76), (1, .ref 3), (2, .ref 64), (3, .int a3), (4, .ref k1)], [.int (40 : Int32), .ref 3], (I1, L1))) rfl ?_
  refine xe_vir (n := 2) (f := fx_X7_isSign) rfl (Nat.le_of_ble_eq_true rfl) (List.mem_of_getElem? (i := 1) rfl) (Nat.le_of_ble_eq_true rfl) c2 ?_
  refine xe_bF 6 (A := (72, [(0, .ref 76), (1, .ref 3), (2, .ref 64), (3, .int a3), (4, .ref k1), (5, .int 1)], [], (I2, L2))) (B := (66, [(0, .ref 76), (1, .ref 3), (2, .ref 64), (3, .int a3), (4, .ref k1), (5, .int 1)], [], (I2, L2))) h1 rfl ?_
  refine xe_bT 2 (A := (78, [(0, .ref 76), (1, .ref 3), (2, .ref 64), (3, .int a3), (4, .ref k1), (5, .int 1)], [], (I2, L2))) (B := (72, [(0, .ref 76), (1, .ref 3), (2, .ref 64), (3, .int a3), (4, .ref k1), (5, .int 1)], [], (I2, L2))) h2 rfl ?_
  refine xe_go 6 (s' := (89, [(0, .ref 76), (1, .ref 3), (2, .ref 64), (3, .int a3), (4, .ref k1), (5, .int 1)], [.ref 3], ((xu I2 76 5 ((I2 76 5) + (1 : Int32))), L2))) rfl ?_
  refine xe_vir (n := 1) (f := fx_X7_step) rfl (Nat.le_of_ble_eq_true rfl) (List.mem_of_getElem? (i := 5) rfl) (Nat.le_of_ble_eq_true rfl) c3 ?_
  refine xe_go 7 (s' := (103, [(0, .ref 76), (1, .ref 3), (2, .ref 64), (3, .int a3), (4, .ref k1), (5, .int 1)], [.int (a3 + (1 : Int32)), .ref 64, .ref 3, .ref 76], (I3, L3))) rfl ?_
  refine xe_vir (n := 4) (f := fC) rfl (Nat.le_of_ble_eq_true rfl) (List.mem_of_getElem? (i := 6) rfl) (Nat.le_of_ble_eq_true rfl) c4 ?_
  refine xe_go 2 (s' := (112, [(0, .ref 76), (1, .ref 3), (2, .ref 64), (3, .int a3), (4, .ref k1), (5, .int 1)], [.int (41 : Int32), .ref 3], (I4, L4))) rfl ?_
  refine xe_vir (n := 2) (f := fx_X7_takeSign) rfl (Nat.le_of_ble_eq_true rfl) (List.mem_of_getElem? (i := 7) rfl) (Nat.le_of_ble_eq_true rfl) c5 ?_
  refine xe_go 1 (s' := (123, [(0, .ref 76), (1, .ref 3), (2, .ref 64), (3, .int a3), (4, .ref k1), (5, .int 1)], [.int (0 : Int32)], (I5, L5))) rfl ?_
  exact xe_end rfl rfl rfl
set_option maxRecDepth 100000 in
theorem pt_X8_readOne_3 {fC : xe_F} {fO : xe_F} {a3 : Int32} {I I1 I2 I3 I4 : Nat → Nat → Int32} {L L1 L2 L3 L4 : Nat → Nat → Int64} {k1 : Nat} (c1 : fx_X7_key [.ref 3] (I, L) (some (.ref k1)) (I1, L1)) (c2 : fx_X7_isSign [.int (40 : Int32), .ref 3] (I1, L1) (some (.int 1)) (I2, L2)) (h1 : (xe_cmp .ge (I2 76 5) (20 : Int32)) = false) (h2 : (xe_cmp .le a3 (8 : Int32)) = true) (c3 : fx_X7_step [.ref 3] ((xu I2 76 5 ((I2 76 5) + (1 : Int32))), L2) none (I3, L3)) (c4 : fC [.int (a3 + (1 : Int32)), .ref 64, .ref 3, .ref 76] (I3, L3) (some (.int 0)) (I4, L4)) : ∃ n, xr_X8_readOne fC fO n (0, [(0, .ref 76), (1, .ref 3), (2, .ref 64), (3, .int a3)], [], (I, L)) (some (.int (0 : Int32))) (I4, L4) := by
  refine xe_go 0 (s' := (1, [(0, .ref 76), (1, .ref 3), (2, .ref 64), (3, .int a3)], [.ref 3], (I, L))) rfl ?_
  refine xe_vir (n := 1) (f := fx_X7_key) rfl (Nat.le_of_ble_eq_true rfl) (List.mem_of_getElem? (i := 0) rfl) (Nat.le_of_ble_eq_true rfl) c1 ?_
  refine xe_go 2 (s' := (9, [(0, .ref 76), (1, .ref 3), (2, .ref 64), (3, .int a3), (4, .ref k1)], [.int (40 : Int32), .ref 3], (I1, L1))) rfl ?_
  refine xe_vir (n := 2) (f := fx_X7_isSign) rfl (Nat.le_of_ble_eq_true rfl) (List.mem_of_getElem? (i := 1) rfl) (Nat.le_of_ble_eq_true rfl) c2 ?_
  refine xe_bF 6 (A := (72, [(0, .ref 76), (1, .ref 3), (2, .ref 64), (3, .int a3), (4, .ref k1), (5, .int 1)], [], (I2, L2))) (B := (66, [(0, .ref 76), (1, .ref 3), (2, .ref 64), (3, .int a3), (4, .ref k1), (5, .int 1)], [], (I2, L2))) h1 rfl ?_
  refine xe_bT 2 (A := (78, [(0, .ref 76), (1, .ref 3), (2, .ref 64), (3, .int a3), (4, .ref k1), (5, .int 1)], [], (I2, L2))) (B := (72, [(0, .ref 76), (1, .ref 3), (2, .ref 64), (3, .int a3), (4, .ref k1), (5, .int 1)], [], (I2, L2))) h2 rfl ?_
  refine xe_go 6 (s' := (89, [(0, .ref 76), (1, .ref 3), (2, .ref 64), (3, .int a3), (4, .ref k1), (5, .int 1)], [.ref 3], ((xu I2 76 5 ((I2 76 5) + (1 : Int32))), L2))) rfl ?_
  refine xe_vir (n := 1) (f := fx_X7_step) rfl (Nat.le_of_ble_eq_true rfl) (List.mem_of_getElem? (i := 5) rfl) (Nat.le_of_ble_eq_true rfl) c3 ?_
  refine xe_go 7 (s' := (103, [(0, .ref 76), (1, .ref 3), (2, .ref 64), (3, .int a3), (4, .ref k1), (5, .int 1)], [.int (a3 + (1 : Int32)), .ref 64, .ref 3, .ref 76], (I3, L3))) rfl ?_
  refine xe_vir (n := 4) (f := fC) rfl (Nat.le_of_ble_eq_true rfl) (List.mem_of_getElem? (i := 6) rfl) (Nat.le_of_ble_eq_true rfl) c4 ?_
  refine xe_go 1 (s' := (123, [(0, .ref 76), (1, .ref 3), (2, .ref 64), (3, .int a3), (4, .ref k1), (5, .int 1)], [.int (0 : Int32)], (I4, L4))) rfl ?_
  exact xe_end rfl rfl rfl
set_option maxRecDepth 100000 in
theorem pt_X8_readOne_4 {fC : xe_F} {fO : xe_F} {a3 : Int32} {I I1 I2 I3 : Nat → Nat → Int32} {L L1 L2 L3 : Nat → Nat → Int64} {k1 : Nat} (c1 : fx_X7_key [.ref 3] (I, L) (some (.ref k1)) (I1, L1)) (c2 : fx_X7_isSign [.int (40 : Int32), .ref 3] (I1, L1) (some (.int 1)) (I2, L2)) (h1 : (xe_cmp .ge (I2 76 5) (20 : Int32)) = false) (h2 : (xe_cmp .le a3 (8 : Int32)) = false) (c3 : fx_X7_fail [.int (4 : Int32), .ref 3] (I2, L2) (some (.int 0)) (I3, L3)) : ∃ n, xr_X8_readOne fC fO n (0, [(0, .ref 76), (1, .ref 3), (2, .ref 64), (3, .int a3)], [], (I, L)) (some (.int 0)) (I3, L3) := by
  refine xe_go 0 (s' := (1, [(0, .ref 76), (1, .ref 3), (2, .ref 64), (3, .int a3)], [.ref 3], (I, L))) rfl ?_
  refine xe_vir (n := 1) (f := fx_X7_key) rfl (Nat.le_of_ble_eq_true rfl) (List.mem_of_getElem? (i := 0) rfl) (Nat.le_of_ble_eq_true rfl) c1 ?_
  refine xe_go 2 (s' := (9, [(0, .ref 76), (1, .ref 3), (2, .ref 64), (3, .int a3), (4, .ref k1)], [.int (40 : Int32), .ref 3], (I1, L1))) rfl ?_
  refine xe_vir (n := 2) (f := fx_X7_isSign) rfl (Nat.le_of_ble_eq_true rfl) (List.mem_of_getElem? (i := 1) rfl) (Nat.le_of_ble_eq_true rfl) c2 ?_
  refine xe_bF 6 (A := (72, [(0, .ref 76), (1, .ref 3), (2, .ref 64), (3, .int a3), (4, .ref k1), (5, .int 1)], [], (I2, L2))) (B := (66, [(0, .ref 76), (1, .ref 3), (2, .ref 64), (3, .int a3), (4, .ref k1), (5, .int 1)], [], (I2, L2))) h1 rfl ?_
  refine xe_bF 2 (A := (78, [(0, .ref 76), (1, .ref 3), (2, .ref 64), (3, .int a3), (4, .ref k1), (5, .int 1)], [], (I2, L2))) (B := (72, [(0, .ref 76), (1, .ref 3), (2, .ref 64), (3, .int a3), (4, .ref k1), (5, .int 1)], [], (I2, L2))) h2 rfl ?_
  refine xe_go 1 (s' := (74, [(0, .ref 76), (1, .ref 3), (2, .ref 64), (3, .int a3), (4, .ref k1), (5, .int 1)], [.int (4 : Int32), .ref 3], (I2, L2))) rfl ?_
  refine xe_vir (n := 2) (f := fx_X7_fail) rfl (Nat.le_of_ble_eq_true rfl) (List.mem_of_getElem? (i := 4) rfl) (Nat.le_of_ble_eq_true rfl) c3 ?_
  exact xe_end rfl rfl rfl
set_option maxRecDepth 100000 in
theorem pt_X8_readOne_5 {fC : xe_F} {fO : xe_F} {a3 : Int32} {I I1 I2 I3 : Nat → Nat → Int32} {L L1 L2 L3 : Nat → Nat → Int64} {k1 : Nat} (c1 : fx_X7_key [.ref 3] (I, L) (some (.ref k1)) (I1, L1)) (c2 : fx_X7_isSign [.int (40 : Int32), .ref 3] (I1, L1) (some (.int 0)) (I2, L2)) (h1 : (Nat.beq k1 215) = true) (h2 : (xe_cmp .ge (I2 76 5) (20 : Int32)) = true) (c3 : fx_X7_fail [.int (4 : Int32), .ref 3] (I2, L2) (some (.int 0)) (I3, L3)) : ∃ n, xr_X8_readOne fC fO n (0, [(0, .ref 76), (1, .ref 3), (2, .ref 64), (3, .int a3)], [], (I, L)) (some (.int 0)) (I3, L3) := by
  refine xe_go 0 (s' := (1, [(0, .ref 76), (1, .ref 3), (2, .ref 64), (3, .int a3)], [.ref 3], (I, L))) rfl ?_
  refine xe_vir (n := 1) (f := fx_X7_key) rfl (Nat.le_of_ble_eq_true rfl) (List.mem_of_getElem? (i := 0) rfl) (Nat.le_of_ble_eq_true rfl) c1 ?_
  refine xe_go 2 (s' := (9, [(0, .ref 76), (1, .ref 3), (2, .ref 64), (3, .int a3), (4, .ref k1)], [.int (40 : Int32), .ref 3], (I1, L1))) rfl ?_
  refine xe_vir (n := 2) (f := fx_X7_isSign) rfl (Nat.le_of_ble_eq_true rfl) (List.mem_of_getElem? (i := 1) rfl) (Nat.le_of_ble_eq_true rfl) c2 ?_
  refine xe_bT 5 (A := (57, [(0, .ref 76), (1, .ref 3), (2, .ref 64), (3, .int a3), (4, .ref k1), (5, .int 0)], [], (I2, L2))) (B := (27, [(0, .ref 76), (1, .ref 3), (2, .ref 64), (3, .int a3), (4, .ref k1), (5, .int 0)], [], (I2, L2))) h1 rfl ?_
  refine xe_bT 3 (A := (72, [(0, .ref 76), (1, .ref 3), (2, .ref 64), (3, .int a3), (4, .ref k1), (5, .int 0)], [], (I2, L2))) (B := (66, [(0, .ref 76), (1, .ref 3), (2, .ref 64), (3, .int a3), (4, .ref k1), (5, .int 0)], [], (I2, L2))) h2 rfl ?_
  refine xe_go 1 (s' := (74, [(0, .ref 76), (1, .ref 3), (2, .ref 64), (3, .int a3), (4, .ref k1), (5, .int 0)], [.int (4 : Int32), .ref 3], (I2, L2))) rfl ?_
  refine xe_vir (n := 2) (f := fx_X7_fail) rfl (Nat.le_of_ble_eq_true rfl) (List.mem_of_getElem? (i := 4) rfl) (Nat.le_of_ble_eq_true rfl) c3 ?_
  exact xe_end rfl rfl rfl
set_option maxRecDepth 100000 in
theorem pt_X8_readOne_6 {fC : xe_F} {fO : xe_F} {a3 : Int32} {I I1 I2 I3 I4 I5 : Nat → Nat → Int32} {L L1 L2 L3 L4 L5 : Nat → Nat → Int64} {k1 : Nat} (c1 : fx_X7_key [.ref 3] (I, L) (some (.ref k1)) (I1, L1)) (c2 : fx_X7_isSign [.int (40 : Int32), .ref 3] (I1, L1) (some (.int 0)) (I2, L2)) (h1 : (Nat.beq k1 215) = true) (h2 : (xe_cmp .ge (I2 76 5) (20 : Int32)) = false) (h3 : (xe_cmp .le a3 (8 : Int32)) = true) (c3 : fx_X7_step [.ref 3] ((xu I2 76 5 ((I2 76 5) + (1 : Int32))), L2) none (I3, L3)) (h4 : (Nat.beq k1 215) = true) (c4 : fO [.int (a3 + (1 : Int32)), .ref 64, .ref 3, .ref 76] (I3, L3) (some (.int 1)) (I4, L4)) (c5 : fx_X8_add [.int (0 : Int32), .int (0 : Int32), .ref 215, .ref 76] (I4, L4) none (I5, L5)) : ∃ n, xr_X8_readOne fC fO n (0, [(0, .ref 76), (1, .ref 3), (2, .ref 64), (3, .int a3)], [], (I, L)) (some (.int 1)) (I5, L5) := by
  refine xe_go 0 (s' := (1, [(0, .ref 76), (1, .ref 3), (2, .ref 64), (3, .int a3)], [.ref 3], (I, L))) rfl ?_
  refine xe_vir (n := 1) (f := fx_X7_key) rfl (Nat.le_of_ble_eq_true rfl) (List.mem_of_getElem? (i := 0) rfl) (Nat.le_of_ble_eq_true rfl) c1 ?_
  refine xe_go 2 (s' := (9, [(0, .ref 76), (1, .ref 3), (2, .ref 64), (3, .int a3), (4, .ref k1)], [.int (40 : Int32), .ref 3], (I1, L1))) rfl ?_
  refine xe_vir (n := 2) (f := fx_X7_isSign) rfl (Nat.le_of_ble_eq_true rfl) (List.mem_of_getElem? (i := 1) rfl) (Nat.le_of_ble_eq_true rfl) c2 ?_
  refine xe_bT 5 (A := (57, [(0, .ref 76), (1, .ref 3), (2, .ref 64), (3, .int a3), (4, .ref k1), (5, .int 0)], [], (I2, L2))) (B := (27, [(0, .ref 76), (1, .ref 3), (2, .ref 64), (3, .int a3), (4, .ref k1), (5, .int 0)], [], (I2, L2))) h1 rfl ?_
  refine xe_bF 3 (A := (72, [(0, .ref 76), (1, .ref 3), (2, .ref 64), (3, .int a3), (4, .ref k1), (5, .int 0)], [], (I2, L2))) (B := (66, [(0, .ref 76), (1, .ref 3), (2, .ref 64), (3, .int a3), (4, .ref k1), (5, .int 0)], [], (I2, L2))) h2 rfl ?_
  refine xe_bT 2 (A := (78, [(0, .ref 76), (1, .ref 3), (2, .ref 64), (3, .int a3), (4, .ref k1), (5, .int 0)], [], (I2, L2))) (B := (72, [(0, .ref 76), (1, .ref 3), (2, .ref 64), (3, .int a3), (4, .ref k1), (5, .int 0)], [], (I2, L2))) h3 rfl ?_
  refine xe_go 6 (s' := (89, [(0, .ref 76), (1, .ref 3), (2, .ref 64), (3, .int a3), (4, .ref k1), (5, .int 0)], [.ref 3], ((xu I2 76 5 ((I2 76 5) + (1 : Int32))), L2))) rfl ?_
  refine xe_vir (n := 1) (f := fx_X7_step) rfl (Nat.le_of_ble_eq_true rfl) (List.mem_of_getElem? (i := 5) rfl) (Nat.le_of_ble_eq_true rfl) c3 ?_
  refine xe_bT 4 (A := (132, [(0, .ref 76), (1, .ref 3), (2, .ref 64), (3, .int a3), (4, .ref k1), (5, .int 0)], [], (I3, L3))) (B := (155, [(0, .ref 76), (1, .ref 3), (2, .ref 64), (3, .int a3), (4, .ref k1), (5, .int 0)], [], (I3, L3))) h4 rfl ?_
  refine xe_go 5 (s' := (138, [(0, .ref 76), (1, .ref 3), (2, .ref 64), (3, .int a3), (4, .ref k1), (5, .int 0)], [.int (a3 + (1 : Int32)), .ref 64, .ref 3, .ref 76], (I3, L3))) rfl ?_
  refine xe_vir (n := 4) (f := fO) rfl (Nat.le_of_ble_eq_true rfl) (List.mem_of_getElem? (i := 8) rfl) (Nat.le_of_ble_eq_true rfl) c4 ?_
  refine xe_go 4 (s' := (149, [(0, .ref 76), (1, .ref 3), (2, .ref 64), (3, .int a3), (4, .ref k1), (5, .int 0), (6, .int 1)], [.int (0 : Int32), .int (0 : Int32), .ref 215, .ref 76], (I4, L4))) rfl ?_
  refine xe_vir (n := 4) (f := fx_X8_add) rfl (Nat.le_of_ble_eq_true rfl) (List.mem_of_getElem? (i := 9) rfl) (Nat.le_of_ble_eq_true rfl) c5 ?_
  refine xe_go 0 (s' := (154, [(0, .ref 76), (1, .ref 3), (2, .ref 64), (3, .int a3), (4, .ref k1), (5, .int 0), (6, .int 1)], [.int 1], (I5, L5))) rfl ?_
  exact xe_end rfl rfl rfl
set_option maxRecDepth 100000 in
theorem pt_X8_readOne_7 {fC : xe_F} {fO : xe_F} {a3 : Int32} {I I1 I2 I3 I4 I5 : Nat → Nat → Int32} {L L1 L2 L3 L4 L5 : Nat → Nat → Int64} {k1 : Nat} (c1 : fx_X7_key [.ref 3] (I, L) (some (.ref k1)) (I1, L1)) (c2 : fx_X7_isSign [.int (40 : Int32), .ref 3] (I1, L1) (some (.int 0)) (I2, L2)) (h1 : (Nat.beq k1 215) = true) (h2 : (xe_cmp .ge (I2 76 5) (20 : Int32)) = false) (h3 : (xe_cmp .le a3 (8 : Int32)) = true) (c3 : fx_X7_step [.ref 3] ((xu I2 76 5 ((I2 76 5) + (1 : Int32))), L2) none (I3, L3)) (h4 : (Nat.beq k1 215) = true) (c4 : fO [.int (a3 + (1 : Int32)), .ref 64, .ref 3, .ref 76] (I3, L3) (some (.int 0)) (I4, L4)) (c5 : fx_X8_add [.int (0 : Int32), .int (0 : Int32), .ref 215, .ref 76] (I4, L4) none (I5, L5)) : ∃ n, xr_X8_readOne fC fO n (0, [(0, .ref 76), (1, .ref 3), (2, .ref 64), (3, .int a3)], [], (I, L)) (some (.int 0)) (I5, L5) := by
  refine xe_go 0 (s' := (1, [(0, .ref 76), (1, .ref 3), (2, .ref 64), (3, .int a3)], [.ref 3], (I, L))) rfl ?_
  refine xe_vir (n := 1) (f := fx_X7_key) rfl (Nat.le_of_ble_eq_true rfl) (List.mem_of_getElem? (i := 0) rfl) (Nat.le_of_ble_eq_true rfl) c1 ?_
  refine xe_go 2 (s' := (9, [(0, .ref 76), (1, .ref 3), (2, .ref 64), (3, .int a3), (4, .ref k1)], [.int (40 : Int32), .ref 3], (I1, L1))) rfl ?_
  refine xe_vir (n := 2) (f := fx_X7_isSign) rfl (Nat.le_of_ble_eq_true rfl) (List.mem_of_getElem? (i := 1) rfl) (Nat.le_of_ble_eq_true rfl) c2 ?_
  refine xe_bT 5 (A := (57, [(0, .ref 76), (1, .ref 3), (2, .ref 64), (3, .int a3), (4, .ref k1), (5, .int 0)], [], (I2, L2))) (B := (27, [(0, .ref 76), (1, .ref 3), (2, .ref 64), (3, .int a3), (4, .ref k1), (5, .int 0)], [], (I2, L2))) h1 rfl ?_
  refine xe_bF 3 (A := (72, [(0, .ref 76), (1, .ref 3), (2, .ref 64), (3, .int a3), (4, .ref k1), (5, .int 0)], [], (I2, L2))) (B := (66, [(0, .ref 76), (1, .ref 3), (2, .ref 64), (3, .int a3), (4, .ref k1), (5, .int 0)], [], (I2, L2))) h2 rfl ?_
  refine xe_bT 2 (A := (78, [(0, .ref 76), (1, .ref 3), (2, .ref 64), (3, .int a3), (4, .ref k1), (5, .int 0)], [], (I2, L2))) (B := (72, [(0, .ref 76), (1, .ref 3), (2, .ref 64), (3, .int a3), (4, .ref k1), (5, .int 0)], [], (I2, L2))) h3 rfl ?_
  refine xe_go 6 (s' := (89, [(0, .ref 76), (1, .ref 3), (2, .ref 64), (3, .int a3), (4, .ref k1), (5, .int 0)], [.ref 3], ((xu I2 76 5 ((I2 76 5) + (1 : Int32))), L2))) rfl ?_
  refine xe_vir (n := 1) (f := fx_X7_step) rfl (Nat.le_of_ble_eq_true rfl) (List.mem_of_getElem? (i := 5) rfl) (Nat.le_of_ble_eq_true rfl) c3 ?_
  refine xe_bT 4 (A := (132, [(0, .ref 76), (1, .ref 3), (2, .ref 64), (3, .int a3), (4, .ref k1), (5, .int 0)], [], (I3, L3))) (B := (155, [(0, .ref 76), (1, .ref 3), (2, .ref 64), (3, .int a3), (4, .ref k1), (5, .int 0)], [], (I3, L3))) h4 rfl ?_
  refine xe_go 5 (s' := (138, [(0, .ref 76), (1, .ref 3), (2, .ref 64), (3, .int a3), (4, .ref k1), (5, .int 0)], [.int (a3 + (1 : Int32)), .ref 64, .ref 3, .ref 76], (I3, L3))) rfl ?_
  refine xe_vir (n := 4) (f := fO) rfl (Nat.le_of_ble_eq_true rfl) (List.mem_of_getElem? (i := 8) rfl) (Nat.le_of_ble_eq_true rfl) c4 ?_
  refine xe_go 4 (s' := (149, [(0, .ref 76), (1, .ref 3), (2, .ref 64), (3, .int a3), (4, .ref k1), (5, .int 0), (6, .int 0)], [.int (0 : Int32), .int (0 : Int32), .ref 215, .ref 76], (I4, L4))) rfl ?_
  refine xe_vir (n := 4) (f := fx_X8_add) rfl (Nat.le_of_ble_eq_true rfl) (List.mem_of_getElem? (i := 9) rfl) (Nat.le_of_ble_eq_true rfl) c5 ?_
  refine xe_go 0 (s' := (154, [(0, .ref 76), (1, .ref 3), (2, .ref 64), (3, .int a3), (4, .ref k1), (5, .int 0), (6, .int 0)], [.int 0], (I5, L5))) rfl ?_
  exact xe_end rfl rfl rfl
set_option maxRecDepth 100000 in
theorem pt_X8_readOne_8 {fC : xe_F} {fO : xe_F} {a3 : Int32} {I I1 I2 I3 I4 : Nat → Nat → Int32} {L L1 L2 L3 L4 : Nat → Nat → Int64} {k1 : Nat} (c1 : fx_X7_key [.ref 3] (I, L) (some (.ref k1)) (I1, L1)) (c2 : fx_X7_isSign [.int (40 : Int32), .ref 3] (I1, L1) (some (.int 0)) (I2, L2)) (h1 : (Nat.beq k1 215) = true) (h2 : (xe_cmp .ge (I2 76 5) (20 : Int32)) = false) (h3 : (xe_cmp .le a3 (8 : Int32)) = true) (c3 : fx_X7_step [.ref 3] ((xu I2 76 5 ((I2 76 5) + (1 : Int32))), L2) none (I3, L3)) (h4 : (Nat.beq k1 215) = false) (c4 : fx_X8_readSimple [.ref k1, .ref 64, .ref 3, .ref 76] (I3, L3) (some (.int 1)) (I4, L4)) : ∃ n, xr_X8_readOne fC fO n (0, [(0, .ref 76), (1, .ref 3), (2, .ref 64), (3, .int a3)], [], (I, L)) (some (.int 1)) (I4, L4) := by
  refine xe_go 0 (s' := (1, [(0, .ref 76), (1, .ref 3), (2, .ref 64), (3, .int a3)], [.ref 3], (I, L))) rfl ?_
  refine xe_vir (n := 1) (f := fx_X7_key) rfl (Nat.le_of_ble_eq_true rfl) (List.mem_of_getElem? (i := 0) rfl) (Nat.le_of_ble_eq_true rfl) c1 ?_
  refine xe_go 2 (s' := (9, [(0, .ref 76), (1, .ref 3), (2, .ref 64), (3, .int a3), (4, .ref k1)], [.int (40 : Int32), .ref 3], (I1, L1))) rfl ?_
  refine xe_vir (n := 2) (f := fx_X7_isSign) rfl (Nat.le_of_ble_eq_true rfl) (List.mem_of_getElem? (i := 1) rfl) (Nat.le_of_ble_eq_true rfl) c2 ?_
  refine xe_bT 5 (A := (57, [(0, .ref 76), (1, .ref 3), (2, .ref 64), (3, .int a3), (4, .ref k1), (5, .int 0)], [], (I2, L2))) (B := (27, [(0, .ref 76), (1, .ref 3), (2, .ref 64), (3, .int a3), (4, .ref k1), (5, .int 0)], [], (I2, L2))) h1 rfl ?_
  refine xe_bF 3 (A := (72, [(0, .ref 76), (1, .ref 3), (2, .ref 64), (3, .int a3), (4, .ref k1), (5, .int 0)], [], (I2, L2))) (B := (66, [(0, .ref 76), (1, .ref 3), (2, .ref 64), (3, .int a3), (4, .ref k1), (5, .int 0)], [], (I2, L2))) h2 rfl ?_
  refine xe_bT 2 (A := (78, [(0, .ref 76), (1, .ref 3), (2, .ref 64), (3, .int a3), (4, .ref k1), (5, .int 0)], [], (I2, L2))) (B := (72, [(0, .ref 76), (1, .ref 3), (2, .ref 64), (3, .int a3), (4, .ref k1), (5, .int 0)], [], (I2, L2))) h3 rfl ?_
  refine xe_go 6 (s' := (89, [(0, .ref 76), (1, .ref 3), (2, .ref 64), (3, .int a3), (4, .ref k1), (5, .int 0)], [.ref 3], ((xu I2 76 5 ((I2 76 5) + (1 : Int32))), L2))) rfl ?_
  refine xe_vir (n := 1) (f := fx_X7_step) rfl (Nat.le_of_ble_eq_true rfl) (List.mem_of_getElem? (i := 5) rfl) (Nat.le_of_ble_eq_true rfl) c3 ?_
  refine xe_bF 4 (A := (132, [(0, .ref 76), (1, .ref 3), (2, .ref 64), (3, .int a3), (4, .ref k1), (5, .int 0)], [], (I3, L3))) (B := (155, [(0, .ref 76), (1, .ref 3), (2, .ref 64), (3, .int a3), (4, .ref k1), (5, .int 0)], [], (I3, L3))) h4 rfl ?_
  refine xe_go 3 (s' := (160, [(0, .ref 76), (1, .ref 3), (2, .ref 64), (3, .int a3), (4, .ref k1), (5, .int 0)], [.ref k1, .ref 64, .ref 3, .ref 76], (I3, L3))) rfl ?_
  refine xe_vir (n := 4) (f := fx_X8_readSimple) rfl (Nat.le_of_ble_eq_true rfl) (List.mem_of_getElem? (i := 10) rfl) (Nat.le_of_ble_eq_true rfl) c4 ?_
  exact xe_end rfl rfl rfl
set_option maxRecDepth 100000 in
theorem pt_X8_readOne_9 {fC : xe_F} {fO : xe_F} {a3 : Int32} {I I1 I2 I3 I4 : Nat → Nat → Int32} {L L1 L2 L3 L4 : Nat → Nat → Int64} {k1 : Nat} (c1 : fx_X7_key [.ref 3] (I, L) (some (.ref k1)) (I1, L1)) (c2 : fx_X7_isSign [.int (40 : Int32), .ref 3] (I1, L1) (some (.int 0)) (I2, L2)) (h1 : (Nat.beq k1 215) = true) (h2 : (xe_cmp .ge (I2 76 5) (20 : Int32)) = false) (h3 : (xe_cmp .le a3 (8 : Int32)) = true) (c3 : fx_X7_step [.ref 3] ((xu I2 76 5 ((I2 76 5) + (1 : Int32))), L2) none (I3, L3)) (h4 : (Nat.beq k1 215) = false) (c4 : fx_X8_readSimple [.ref k1, .ref 64, .ref 3, .ref 76] (I3, L3) (some (.int 0)) (I4, L4)) : ∃ n, xr_X8_readOne fC fO n (0, [(0, .ref 76), (1, .ref 3), (2, .ref 64), (3, .int a3)], [], (I, L)) (some (.int 0)) (I4, L4) := by
  refine xe_go 0 (s' := (1, [(0, .ref 76), (1, .ref 3), (2, .ref 64), (3, .int a3)], [.ref 3], (I, L))) rfl ?_
  refine xe_vir (n := 1) (f := fx_X7_key) rfl (Nat.le_of_ble_eq_true rfl) (List.mem_of_getElem? (i := 0) rfl) (Nat.le_of_ble_eq_true rfl) c1 ?_
  refine xe_go 2 (s' := (9, [(0, .ref 76), (1, .ref 3), (2, .ref 64), (3, .int a3), (4, .ref k1)], [.int (40 : Int32), .ref 3], (I1, L1))) rfl ?_
  refine xe_vir (n := 2) (f := fx_X7_isSign) rfl (Nat.le_of_ble_eq_true rfl) (List.mem_of_getElem? (i := 1) rfl) (Nat.le_of_ble_eq_true rfl) c2 ?_
  refine xe_bT 5 (A := (57, [(0, .ref 76), (1, .ref 3), (2, .ref 64), (3, .int a3), (4, .ref k1), (5, .int 0)], [], (I2, L2))) (B := (27, [(0, .ref 76), (1, .ref 3), (2, .ref 64), (3, .int a3), (4, .ref k1), (5, .int 0)], [], (I2, L2))) h1 rfl ?_
  refine xe_bF 3 (A := (72, [(0, .ref 76), (1, .ref 3), (2, .ref 64), (3, .int a3), (4, .ref k1), (5, .int 0)], [], (I2, L2))) (B := (66, [(0, .ref 76), (1, .ref 3), (2, .ref 64), (3, .int a3), (4, .ref k1), (5, .int 0)], [], (I2, L2))) h2 rfl ?_
  refine xe_bT 2 (A := (78, [(0, .ref 76), (1, .ref 3), (2, .ref 64), (3, .int a3), (4, .ref k1), (5, .int 0)], [], (I2, L2))) (B := (72, [(0, .ref 76), (1, .ref 3), (2, .ref 64), (3, .int a3), (4, .ref k1), (5, .int 0)], [], (I2, L2))) h3 rfl ?_
  refine xe_go 6 (s' := (89, [(0, .ref 76), (1, .ref 3), (2, .ref 64), (3, .int a3), (4, .ref k1), (5, .int 0)], [.ref 3], ((xu I2 76 5 ((I2 76 5) + (1 : Int32))), L2))) rfl ?_
  refine xe_vir (n := 1) (f := fx_X7_step) rfl (Nat.le_of_ble_eq_true rfl) (List.mem_of_getElem? (i := 5) rfl) (Nat.le_of_ble_eq_true rfl) c3 ?_
  refine xe_bF 4 (A := (132, [(0, .ref 76), (1, .ref 3), (2, .ref 64), (3, .int a3), (4, .ref k1), (5, .int 0)], [], (I3, L3))) (B := (155, [(0, .ref 76), (1, .ref 3), (2, .ref 64), (3, .int a3), (4, .ref k1), (5, .int 0)], [], (I3, L3))) h4 rfl ?_
  refine xe_go 3 (s' := (160, [(0, .ref 76), (1, .ref 3), (2, .ref 64), (3, .int a3), (4, .ref k1), (5, .int 0)], [.ref k1, .ref 64, .ref 3, .ref 76], (I3, L3))) rfl ?_
  refine xe_vir (n := 4) (f := fx_X8_readSimple) rfl (Nat.le_of_ble_eq_true rfl) (List.mem_of_getElem? (i := 10) rfl) (Nat.le_of_ble_eq_true rfl) c4 ?_
  exact xe_end rfl rfl rfl
set_option maxRecDepth 100000 in
theorem pt_X8_readOne_10 {fC : xe_F} {fO : xe_F} {a3 : Int32} {I I1 I2 I3 : Nat → Nat → Int32} {L L1 L2 L3 : Nat → Nat → Int64} {k1 : Nat} (c1 : fx_X7_key [.ref 3] (I, L) (some (.ref k1)) (I1, L1)) (c2 : fx_X7_isSign [.int (40 : Int32), .ref 3] (I1, L1) (some (.int 0)) (I2, L2)) (h1 : (Nat.beq k1 215) = true) (h2 : (xe_cmp .ge (I2 76 5) (20 : Int32)) = false) (h3 : (xe_cmp .le a3 (8 : Int32)) = false) (c3 : fx_X7_fail [.int (4 : Int32), .ref 3] (I2, L2) (some (.int 0)) (I3, L3)) : ∃ n, xr_X8_readOne fC fO n (0, [(0, .ref 76), (1, .ref 3), (2, .ref 64), (3, .int a3)], [], (I, L)) (some (.int 0)) (I3, L3) := by
  refine xe_go 0 (s' := (1, [(0, .ref 76), (1, .ref 3), (2, .ref 64), (3, .int a3)], [.ref 3], (I, L))) rfl ?_
  refine xe_vir (n := 1) (f := fx_X7_key) rfl (Nat.le_of_ble_eq_true rfl) (List.mem_of_getElem? (i := 0) rfl) (Nat.le_of_ble_eq_true rfl) c1 ?_
  refine xe_go 2 (s' := (9, [(0, .ref 76), (1, .ref 3), (2, .ref 64), (3, .int a3), (4, .ref k1)], [.int (40 : Int32), .ref 3], (I1, L1))) rfl ?_
  refine xe_vir (n := 2) (f := fx_X7_isSign) rfl (Nat.le_of_ble_eq_true rfl) (List.mem_of_getElem? (i := 1) rfl) (Nat.le_of_ble_eq_true rfl) c2 ?_
  refine xe_bT 5 (A := (57, [(0, .ref 76), (1, .ref 3), (2, .ref 64), (3, .int a3), (4, .ref k1), (5, .int 0)], [], (I2, L2))) (B := (27, [(0, .ref 76), (1, .ref 3), (2, .ref 64), (3, .int a3), (4, .ref k1), (5, .int 0)], [], (I2, L2))) h1 rfl ?_
  refine xe_bF 3 (A := (72, [(0, .ref 76), (1, .ref 3), (2, .ref 64), (3, .int a3), (4, .ref k1), (5, .int 0)], [], (I2, L2))) (B := (66, [(0, .ref 76), (1, .ref 3), (2, .ref 64), (3, .int a3), (4, .ref k1), (5, .int 0)], [], (I2, L2))) h2 rfl ?_
  refine xe_bF 2 (A := (78, [(0, .ref 76), (1, .ref 3), (2, .ref 64), (3, .int a3), (4, .ref k1), (5, .int 0)], [], (I2, L2))) (B := (72, [(0, .ref 76), (1, .ref 3), (2, .ref 64), (3, .int a3), (4, .ref k1), (5, .int 0)], [], (I2, L2))) h3 rfl ?_
  refine xe_go 1 (s' := (74, [(0, .ref 76), (1, .ref 3), (2, .ref 64), (3, .int a3), (4, .ref k1), (5, .int 0)], [.int (4 : Int32), .ref 3], (I2, L2))) rfl ?_
  refine xe_vir (n := 2) (f := fx_X7_fail) rfl (Nat.le_of_ble_eq_true rfl) (List.mem_of_getElem? (i := 4) rfl) (Nat.le_of_ble_eq_true rfl) c3 ?_
  exact xe_end rfl rfl rfl
set_option maxRecDepth 100000 in
theorem pt_X8_readOne_11 {fC : xe_F} {fO : xe_F} {a3 : Int32} {I I1 I2 I3 : Nat → Nat → Int32} {L L1 L2 L3 : Nat → Nat → Int64} {k1 : Nat} (c1 : fx_X7_key [.ref 3] (I, L) (some (.ref k1)) (I1, L1)) (c2 : fx_X7_isSign [.int (40 : Int32), .ref 3] (I1, L1) (some (.int 0)) (I2, L2)) (h1 : (Nat.beq k1 215) = false) (h2 : (Nat.beq k1 219) = true) (h3 : (xe_cmp .ge (I2 76 5) (20 : Int32)) = true) (c3 : fx_X7_fail [.int (4 : Int32), .ref 3] (I2, L2) (some (.int 0)) (I3, L3)) : ∃ n, xr_X8_readOne fC fO n (0, [(0, .ref 76), (1, .ref 3), (2, .ref 64), (3, .int a3)], [], (I, L)) (some (.int 0)) (I3, L3) := by
  refine xe_go 0 (s' := (1, [(0, .ref 76), (1, .ref 3), (2, .ref 64), (3, .int a3)], [.ref 3], (I, L))) rfl ?_
  refine xe_vir (n := 1) (f := fx_X7_key) rfl (Nat.le_of_ble_eq_true rfl) (List.mem_of_getElem? (i := 0) rfl) (Nat.le_of_ble_eq_true rfl) c1 ?_
  refine xe_go 2 (s' := (9, [(0, .ref 76), (1, .ref 3), (2, .ref 64), (3, .int a3), (4, .ref k1)], [.int (40 : Int32), .ref 3], (I1, L1))) rfl ?_
  refine xe_vir (n := 2) (f := fx_X7_isSign) rfl (Nat.le_of_ble_eq_true rfl) (List.mem_of_getElem? (i := 1) rfl) (Nat.le_of_ble_eq_true rfl) c2 ?_
  refine xe_bF 5 (A := (57, [(0, .ref 76), (1, .ref 3), (2, .ref 64), (3, .int a3), (4, .ref k1), (5, .int 0)], [], (I2, L2))) (B := (27, [(0, .ref 76), (1, .ref 3), (2, .ref 64), (3, .int a3), (4, .ref k1), (5, .int 0)], [], (I2, L2))) h1 rfl ?_
  refine xe_bT 2 (A := (57, [(0, .ref 76), (1, .ref 3), (2, .ref 64), (3, .int a3), (4, .ref k1), (5, .int 0)], [], (I2, L2))) (B := (35, [(0, .ref 76), (1, .ref 3), (2, .ref 64), (3, .int a3), (4, .ref k1), (5, .int 0)], [], (I2, L2))) h2 rfl ?_
  refine xe_bT 3 (A := (72, [(0, .ref 76), (1, .ref 3), (2, .ref 64), (3, .int a3), (4, .ref k1), (5, .int 0)], [], (I2, L2))) (B := (66, [(0, .ref 76), (1, .ref 3), (2, .ref 64), (3, .int a3), (4, .ref k1), (5, .int 0)], [], (I2, L2))) h3 rfl ?_
  refine xe_go 1 (s' := (74, [(0, .ref 76), (1, .ref 3), (2, .ref 64), (3, .int a3), (4, .ref k1), (5, .int 0)], [.int (4 : Int32), .ref 3], (I2, L2))) rfl ?_
  refine xe_vir (n := 2) (f := fx_X7_fail) rfl (Nat.le_of_ble_eq_true rfl) (List.mem_of_getElem? (i := 4) rfl) (Nat.le_of_ble_eq_true rfl) c3 ?_
  exact xe_end rfl rfl rfl
set_option maxRecDepth 100000 in
theorem pt_X8_readOne_12 {fC : xe_F} {fO : xe_F} {a3 : Int32} {I I1 I2 I3 I4 I5 : Nat → Nat → Int32} {L L1 L2 L3 L4 L5 : Nat → Nat → Int64} {k1 : Nat} (c1 : fx_X7_key [.ref 3] (I, L) (some (.ref k1)) (I1, L1)) (c2 : fx_X7_isSign [.int (40 : Int32), .ref 3] (I1, L1) (some (.int 0)) (I2, L2)) (h1 : (Nat.beq k1 215) = false) (h2 : (Nat.beq k1 219) = true) (h3 : (xe_cmp .ge (I2 76 5) (20 : Int32)) = false) (h4 : (xe_cmp .le a3 (8 : Int32)) = true) (c3 : fx_X7_step [.ref 3] ((xu I2 76 5 ((I2 76 5) + (1 : Int32))), L2) none (I3, L3)) (h5 : (Nat.beq k1 215) = true) (c4 : fO [.int (a3 + (1 : Int32)), .ref 64, .ref 3, .ref 76] (I3, L3) (some (.int 1)) (I4, L4)) (c5 : fx_X8_add [.int (0 : Int32), .int (0 : Int32), .ref 215, .ref 76] (I4, L4) none (I5, L5)) : ∃ n, xr_X8_readOne fC fO n (0, [(0, .ref 76), (1, .ref 3), (2, .ref 64), (3, .int a3)], [], (I, L)) (some (.int 1)) (I5, L5) := by
  refine xe_go 0 (s' := (1, [(0, .ref 76), (1, .ref 3), (2, .ref 64), (3, .int a3)], [.ref 3], (I, L))) rfl ?_
  refine xe_vir (n := 1) (f := fx_X7_key) rfl (Nat.le_of_ble_eq_true rfl) (List.mem_of_getElem? (i := 0) rfl) (Nat.le_of_ble_eq_true rfl) c1 ?_
  refine xe_go 2 (s' := (9, [(0, .ref 76), (1, .ref 3), (2, .ref 64), (3, .int a3), (4, .ref k1)], [.int (40 : Int32), .ref 3], (I1, L1))) rfl ?_
  refine xe_vir (n := 2) (f := fx_X7_isSign) rfl (Nat.le_of_ble_eq_true rfl) (List.mem_of_getElem? (i := 1) rfl) (Nat.le_of_ble_eq_true rfl) c2 ?_
  refine xe_bF 5 (A := (57, [(0, .ref 76), (1, .ref 3), (2, .ref 64), (3, .int a3), (4, .ref k1), (5, .int 0)], [], (I2, L2))) (B := (27, [(0, .ref 76), (1, .ref 3), (2, .ref 64), (3, .int a3), (4, .ref k1), (5, .int 0)], [], (I2, L2))) h1 rfl ?_
  refine xe_bT 2 (A := (57, [(0, .ref 76), (1, .ref 3), (2, .ref 64), (3, .int a3), (4, .ref k1), (5, .int 0)], [], (I2, L2))) (B := (35, [(0, .ref 76), (1, .ref 3), (2, .ref 64), (3, .int a3), (4, .ref k1), (5, .int 0)], [], (I2, L2))) h2 rfl ?_
  refine xe_bF 3 (A := (72, [(0, .ref 76), (1, .ref 3), (2, .ref 64), (3, .int a3), (4, .ref k1), (5, .int 0)], [], (I2, L2))) (B := (66, [(0, .ref 76), (1, .ref 3), (2, .ref 64), (3, .int a3), (4, .ref k1), (5, .int 0)], [], (I2, L2))) h3 rfl ?_
  refine xe_bT 2 (A := (78, [(0, .ref 76), (1, .ref 3), (2, .ref 64), (3, .int a3), (4, .ref k1), (5, .int 0)], [], (I2, L2))) (B := (72, [(0, .ref 76), (1, .ref 3), (2, .ref 64), (3, .int a3), (4, .ref k1), (5, .int 0)], [], (I2, L2))) h4 rfl ?_
  refine xe_go 6 (s' := (89, [(0, .ref 76), (1, .ref 3), (2, .ref 64), (3, .int a3), (4, .ref k1), (5, .int 0)], [.ref 3], ((xu I2 76 5 ((I2 76 5) + (1 : Int32))), L2))) rfl ?_
  refine xe_vir (n := 1) (f := fx_X7_step) rfl (Nat.le_of_ble_eq_true rfl) (List.mem_of_getElem? (i := 5) rfl) (Nat.le_of_ble_eq_true rfl) c3 ?_
  refine xe_bT 4 (A := (132, [(0, .ref 76), (1, .ref 3), (2, .ref 64), (3, .int a3), (4, .ref k1), (5, .int 0)], [], (I3, L3))) (B := (155, [(0, .ref 76), (1, .ref 3), (2, .ref 64), (3, .int a3), (4, .ref k1), (5, .int 0)], [], (I3, L3))) h5 rfl ?_
  refine xe_go 5 (s' := (138, [(0, .ref 76), (1, .ref 3), (2, .ref 64), (3, .int a3), (4, .ref k1), (5, .int 0)], [.int (a3 + (1 : Int32)), .ref 64, .ref 3, .ref 76], (I3, L3))) rfl ?_
  refine xe_vir (n := 4) (f := fO) rfl (Nat.le_of_ble_eq_true rfl) (List.mem_of_getElem? (i := 8) rfl) (Nat.le_of_ble_eq_true rfl) c4 ?_
  refine xe_go 4 (s' := (149, [(0, .ref 76), (1, .ref 3), (2, .ref 64), (3, .int a3), (4, .ref k1), (5, .int 0), (6, .int 1)], [.int (0 : Int32), .int (0 : Int32), .ref 215, .ref 76], (I4, L4))) rfl ?_
  refine xe_vir (n := 4) (f := fx_X8_add) rfl (Nat.le_of_ble_eq_true rfl) (List.mem_of_getElem? (i := 9) rfl) (Nat.le_of_ble_eq_true rfl) c5 ?_
  refine xe_go 0 (s' := (154, [(0, .ref 76), (1, .ref 3), (2, .ref 64), (3, .int a3), (4, .ref k1), (5, .int 0), (6, .int 1)], [.int 1], (I5, L5))) rfl ?_
  exact xe_end rfl rfl rfl
set_option maxRecDepth 100000 in
theorem pt_X8_readOne_13 {fC : xe_F} {fO : xe_F} {a3 : Int32} {I I1 I2 I3 I4 I5 : Nat → Nat → Int32} {L L1 L2 L3 L4 L5 : Nat → Nat → Int64} {k1 : Nat} (c1 : fx_X7_key [.ref 3] (I, L) (some (.ref k1)) (I1, L1)) (c2 : fx_X7_isSign [.int (40 : Int32), .ref 3] (I1, L1) (some (.int 0)) (I2, L2)) (h1 : (Nat.beq k1 215) = false) (h2 : (Nat.beq k1 219) = true) (h3 : (xe_cmp .ge (I2 76 5) (20 : Int32)) = false) (h4 : (xe_cmp .le a3 (8 : Int32)) = true) (c3 : fx_X7_step [.ref 3] ((xu I2 76 5 ((I2 76 5) + (1 : Int32))), L2) none (I3, L3)) (h5 : (Nat.beq k1 215) = true) (c4 : fO [.int (a3 + (1 : Int32)), .ref 64, .ref 3, .ref 76] (I3, L3) (some (.int 0)) (I4, L4)) (c5 : fx_X8_add [.int (0 : Int32), .int (0 : Int32), .ref 215, .ref 76] (I4, L4) none (I5, L5)) : ∃ n, xr_X8_readOne fC fO n (0, [(0, .ref 76), (1, .ref 3), (2, .ref 64), (3, .int a3)], [], (I, L)) (some (.int 0)) (I5, L5) := by
  refine xe_go 0 (s' := (1, [(0, .ref 76), (1, .ref 3), (2, .ref 64), (3, .int a3)], [.ref 3], (I, L))) rfl ?_
  refine xe_vir (n := 1) (f := fx_X7_key) rfl (Nat.le_of_ble_eq_true rfl) (List.mem_of_getElem? (i := 0) rfl) (Nat.le_of_ble_eq_true rfl) c1 ?_
  refine xe_go 2 (s' := (9, [(0, .ref 76), (1, .ref 3), (2, .ref 64), (3, .int a3), (4, .ref k1)], [.int (40 : Int32), .ref 3], (I1, L1))) rfl ?_
  refine xe_vir (n := 2) (f := fx_X7_isSign) rfl (Nat.le_of_ble_eq_true rfl) (List.mem_of_getElem? (i := 1) rfl) (Nat.le_of_ble_eq_true rfl) c2 ?_
  refine xe_bF 5 (A := (57, [(0, .ref 76), (1, .ref 3), (2, .ref 64), (3, .int a3), (4, .ref k1), (5, .int 0)], [], (I2, L2))) (B := (27, [(0, .ref 76), (1, .ref 3), (2, .ref 64), (3, .int a3), (4, .ref k1), (5, .int 0)], [], (I2, L2))) h1 rfl ?_
  refine xe_bT 2 (A := (57, [(0, .ref 76), (1, .ref 3), (2, .ref 64), (3, .int a3), (4, .ref k1), (5, .int 0)], [], (I2, L2))) (B := (35, [(0, .ref 76), (1, .ref 3), (2, .ref 64), (3, .int a3), (4, .ref k1), (5, .int 0)], [], (I2, L2))) h2 rfl ?_
  refine xe_bF 3 (A := (72, [(0, .ref 76), (1, .ref 3), (2, .ref 64), (3, .int a3), (4, .ref k1), (5, .int 0)], [], (I2, L2))) (B := (66, [(0, .ref 76), (1, .ref 3), (2, .ref 64), (3, .int a3), (4, .ref k1), (5, .int 0)], [], (I2, L2))) h3 rfl ?_
  refine xe_bT 2 (A := (78, [(0, .ref 76), (1, .ref 3), (2, .ref 64), (3, .int a3), (4, .ref k1), (5, .int 0)], [], (I2, L2))) (B := (72, [(0, .ref 76), (1, .ref 3), (2, .ref 64), (3, .int a3), (4, .ref k1), (5, .int 0)], [], (I2, L2))) h4 rfl ?_
  refine xe_go 6 (s' := (89, [(0, .ref 76), (1, .ref 3), (2, .ref 64), (3, .int a3), (4, .ref k1), (5, .int 0)], [.ref 3], ((xu I2 76 5 ((I2 76 5) + (1 : Int32))), L2))) rfl ?_
  refine xe_vir (n := 1) (f := fx_X7_step) rfl (Nat.le_of_ble_eq_true rfl) (List.mem_of_getElem? (i := 5) rfl) (Nat.le_of_ble_eq_true rfl) c3 ?_
  refine xe_bT 4 (A := (132, [(0, .ref 76), (1, .ref 3), (2, .ref 64), (3, .int a3), (4, .ref k1), (5, .int 0)], [], (I3, L3))) (B := (155, [(0, .ref 76), (1, .ref 3), (2, .ref 64), (3, .int a3), (4, .ref k1), (5, .int 0)], [], (I3, L3))) h5 rfl ?_
  refine xe_go 5 (s' := (138, [(0, .ref 76), (1, .ref 3), (2, .ref 64), (3, .int a3), (4, .ref k1), (5, .int 0)], [.int (a3 + (1 : Int32)), .ref 64, .ref 3, .ref 76], (I3, L3))) rfl ?_
  refine xe_vir (n := 4) (f := fO) rfl (Nat.le_of_ble_eq_true rfl) (List.mem_of_getElem? (i := 8) rfl) (Nat.le_of_ble_eq_true rfl) c4 ?_
  refine xe_go 4 (s' := (149, [(0, .ref 76), (1, .ref 3), (2, .ref 64), (3, .int a3), (4, .ref k1), (5, .int 0), (6, .int 0)], [.int (0 : Int32), .int (0 : Int32), .ref 215, .ref 76], (I4, L4))) rfl ?_
  refine xe_vir (n := 4) (f := fx_X8_add) rfl (Nat.le_of_ble_eq_true rfl) (List.mem_of_getElem? (i := 9) rfl) (Nat.le_of_ble_eq_true rfl) c5 ?_
  refine xe_go 0 (s' := (154, [(0, .ref 76), (1, .ref 3), (2, .ref 64), (3, .int a3), (4, .ref k1), (5, .int 0), (6, .int 0)], [.int 0], (I5, L5))) rfl ?_
  exact xe_end rfl rfl rfl
set_option maxRecDepth 100000 in
theorem pt_X8_readOne_14 {fC : xe_F} {fO : xe_F} {a3 : Int32} {I I1 I2 I3 I4 : Nat → Nat → Int32} {L L1 L2 L3 L4 : Nat → Nat → Int64} {k1 : Nat} (c1 : fx_X7_key [.ref 3] (I, L) (some (.ref k1)) (I1, L1)) (c2 : fx_X7_isSign [.int (40 : Int32), .ref 3] (I1, L1) (some (.int 0)) (I2, L2)) (h1 : (Nat.beq k1 215) = false) (h2 : (Nat.beq k1 219) = true) (h3 : (xe_cmp .ge (I2 76 5) (20 : Int32)) = false) (h4 : (xe_cmp .le a3 (8 : Int32)) = true) (c3 : fx_X7_step [.ref 3] ((xu I2 76 5 ((I2 76 5) + (1 : Int32))), L2) none (I3, L3)) (h5 : (Nat.beq k1 215) = false) (c4 : fx_X8_readSimple [.ref k1, .ref 64, .ref 3, .ref 76] (I3, L3) (some (.int 1)) (I4, L4)) : ∃ n, xr_X8_readOne fC fO n (0, [(0, .ref 76), (1, .ref 3), (2, .ref 64), (3, .int a3)], [], (I, L)) (some (.int 1)) (I4, L4) := by
  refine xe_go 0 (s' := (1, [(0, .ref 76), (1, .ref 3), (2, .ref 64), (3, .int a3)], [.ref 3], (I, L))) rfl ?_
  refine xe_vir (n := 1) (f := fx_X7_key) rfl (Nat.le_of_ble_eq_true rfl) (List.mem_of_getElem? (i := 0) rfl) (Nat.le_of_ble_eq_true rfl) c1 ?_
  refine xe_go 2 (s' := (9, [(0, .ref 76), (1, .ref 3), (2, .ref 64), (3, .int a3), (4, .ref k1)], [.int (40 : Int32), .ref 3], (I1, L1))) rfl ?_
  refine xe_vir (n := 2) (f := fx_X7_isSign) rfl (Nat.le_of_ble_eq_true rfl) (List.mem_of_getElem? (i := 1) rfl) (Nat.le_of_ble_eq_true rfl) c2 ?_
  refine xe_bF 5 (A := (57, [(0, .ref 76), (1, .ref 3), (2, .ref 64), (3, .int a3), (4, .ref k1), (5, .int 0)], [], (I2, L2))) (B := (27, [(0, .ref 76), (1, .ref 3), (2, .ref 64), (3, .int a3), (4, .ref k1), (5, .int 0)], [], (I2, L2))) h1 rfl ?_
  refine xe_bT 2 (A := (57, [(0, .ref 76), (1, .ref 3), (2, .ref 64), (3, .int a3), (4, .ref k1), (5, .int 0)], [], (I2, L2))) (B := (35, [(0, .ref 76), (1, .ref 3), (2, .ref 64), (3, .int a3), (4, .ref k1), (5, .int 0)], [], (I2, L2))) h2 rfl ?_
  refine xe_bF 3 (A := (72, [(0, .ref 76), (1, .ref 3), (2, .ref 64), (3, .int a3), (4, .ref k1), (5, .int 0)], [], (I2, L2))) (B := (66, [(0, .ref 76), (1, .ref 3), (2, .ref 64), (3, .int a3), (4, .ref k1), (5, .int 0)], [], (I2, L2))) h3 rfl ?_
  refine xe_bT 2 (A := (78, [(0, .ref 76), (1, .ref 3), (2, .ref 64), (3, .int a3), (4, .ref k1), (5, .int 0)], [], (I2, L2))) (B := (72, [(0, .ref 76), (1, .ref 3), (2, .ref 64), (3, .int a3), (4, .ref k1), (5, .int 0)], [], (I2, L2))) h4 rfl ?_
  refine xe_go 6 (s' := (89, [(0, .ref 76), (1, .ref 3), (2, .ref 64), (3, .int a3), (4, .ref k1), (5, .int 0)], [.ref 3], ((xu I2 76 5 ((I2 76 5) + (1 : Int32))), L2))) rfl ?_
  refine xe_vir (n := 1) (f := fx_X7_step) rfl (Nat.le_of_ble_eq_true rfl) (List.mem_of_getElem? (i := 5) rfl) (Nat.le_of_ble_eq_true rfl) c3 ?_
  refine xe_bF 4 (A := (132, [(0, .ref 76), (1, .ref 3), (2, .ref 64), (3, .int a3), (4, .ref k1), (5, .int 0)], [], (I3, L3))) (B := (155, [(0, .ref 76), (1, .ref 3), (2, .ref 64), (3, .int a3), (4, .ref k1), (5, .int 0)], [], (I3, L3))) h5 rfl ?_
  refine xe_go 3 (s' := (160, [(0, .ref 76), (1, .ref 3), (2, .ref 64), (3, .int a3), (4, .ref k1), (5, .int 0)], [.ref k1, .ref 64, .ref 3, .ref 76], (I3, L3))) rfl ?_
  refine xe_vir (n := 4) (f := fx_X8_readSimple) rfl (Nat.le_of_ble_eq_true rfl) (List.mem_of_getElem? (i := 10) rfl) (Nat.le_of_ble_eq_true rfl) c4 ?_
  exact xe_end rfl rfl rfl
set_option maxRecDepth 100000 in
theorem pt_X8_readOne_15 {fC : xe_F} {fO : xe_F} {a3 : Int32} {I I1 I2 I3 I4 : Nat → Nat → Int32} {L L1 L2 L3 L4 : Nat → Nat → Int64} {k1 : Nat} (c1 : fx_X7_key [.ref 3] (I, L) (some (.ref k1)) (I1, L1)) (c2 : fx_X7_isSign [.int (40 : Int32), .ref 3] (I1, L1) (some (.int 0)) (I2, L2)) (h1 : (Nat.beq k1 215) = false) (h2 : (Nat.beq k1 219) = true) (h3 : (xe_cmp .ge (I2 76 5) (20 : Int32)) = false) (h4 : (xe_cmp .le a3 (8 : Int32)) = true) (c3 : fx_X7_step [.ref 3] ((xu I2 76 5 ((I2 76 5) + (1 : Int32))), L2) none (I3, L3)) (h5 : (Nat.beq k1 215) = false) (c4 : fx_X8_readSimple [.ref k1, .ref 64, .ref 3, .ref 76] (I3, L3) (some (.int 0)) (I4, L4)) : ∃ n, xr_X8_readOne fC fO n (0, [(0, .ref 76), (1, .ref 3), (2, .ref 64), (3, .int a3)], [], (I, L)) (some (.int 0)) (I4, L4) := by
  refine xe_go 0 (s' := (1, [(0, .ref 76), (1, .ref 3), (2, .ref 64), (3, .int a3)], [.ref 3], (I, L))) rfl ?_
  refine xe_vir (n := 1) (f := fx_X7_key) rfl (Nat.le_of_ble_eq_true rfl) (List.mem_of_getElem? (i := 0) rfl) (Nat.le_of_ble_eq_true rfl) c1 ?_
  refine xe_go 2 (s' := (9, [(0, .ref 76), (1, .ref 3), (2, .ref 64), (3, .int a3), (4, .ref k1)], [.int (40 : Int32), .ref 3], (I1, L1))) rfl ?_
  refine xe_vir (n := 2) (f := fx_X7_isSign) rfl (Nat.le_of_ble_eq_true rfl) (List.mem_of_getElem? (i := 1) rfl) (Nat.le_of_ble_eq_true rfl) c2 ?_
  refine xe_bF 5 (A := (57, [(0, .ref 76), (1, .ref 3), (2, .ref 64), (3, .int a3), (4, .ref k1), (5, .int 0)], [], (I2, L2))) (B := (27, [(0, .ref 76), (1, .ref 3), (2, .ref 64), (3, .int a3), (4, .ref k1), (5, .int 0)], [], (I2, L2))) h1 rfl ?_
  refine xe_bT 2 (A := (57, [(0, .ref 76), (1, .ref 3), (2, .ref 64), (3, .int a3), (4, .ref k1), (5, .int 0)], [], (I2, L2))) (B := (35, [(0, .ref 76), (1, .ref 3), (2, .ref 64), (3, .int a3), (4, .ref k1), (5, .int 0)], [], (I2, L2))) h2 rfl ?_
  refine xe_bF 3 (A := (72, [(0, .ref 76), (1, .ref 3), (2, .ref 64), (3, .int a3), (4, .ref k1), (5, .int 0)], [], (I2, L2))) (B := (66, [(0, .ref 76), (1, .ref 3), (2, .ref 64), (3, .int a3), (4, .ref k1), (5, .int 0)], [], (I2, L2))) h3 rfl ?_
  refine xe_bT 2 (A := (78, [(0, .ref 76), (1, .ref 3), (2, .ref 64), (3, .int a3), (4, .ref k1), (5, .int 0)], [], (I2, L2))) (B := (72, [(0, .ref 76), (1, .ref 3), (2, .ref 64), (3, .int a3), (4, .ref k1), (5, .int 0)], [], (I2, L2))) h4 rfl ?_
  refine xe_go 6 (s' := (89, [(0, .ref 76), (1, .ref 3), (2, .ref 64), (3, .int a3), (4, .ref k1), (5, .int 0)], [.ref 3], ((xu I2 76 5 ((I2 76 5) + (1 : Int32))), L2))) rfl ?_
  refine xe_vir (n := 1) (f := fx_X7_step) rfl (Nat.le_of_ble_eq_true rfl) (List.mem_of_getElem? (i := 5) rfl) (Nat.le_of_ble_eq_true rfl) c3 ?_
  refine xe_bF 4 (A := (132, [(0, .ref 76), (1, .ref 3), (2, .ref 64), (3, .int a3), (4, .ref k1), (5, .int 0)], [], (I3, L3))) (B := (155, [(0, .ref 76), (1, .ref 3), (2, .ref 64), (3, .int a3), (4, .ref k1), (5, .int 0)], [], (I3, L3))) h5 rfl ?_
  refine xe_go 3 (s' := (160, [(0, .ref 76), (1, .ref 3), (2, .ref 64), (3, .int a3), (4, .ref k1), (5, .int 0)], [.ref k1, .ref 64, .ref 3, .ref 76], (I3, L3))) rfl ?_
  refine xe_vir (n := 4) (f := fx_X8_readSimple) rfl (Nat.le_of_ble_eq_true rfl) (List.mem_of_getElem? (i := 10) rfl) (Nat.le_of_ble_eq_true rfl) c4 ?_
  exact xe_end rfl rfl rfl
set_option maxRecDepth 100000 in
theorem pt_X8_readOne_16 {fC : xe_F} {fO : xe_F} {a3 : Int32} {I I1 I2 I3 : Nat → Nat → Int32} {L L1 L2 L3 : Nat → Nat → Int64} {k1 : Nat} (c1 : fx_X7_key [.ref 3] (I, L) (some (.ref k1)) (I1, L1)) (c2 : fx_X7_isSign [.int (40 : Int32), .ref 3] (I1, L1) (some (.int 0)) (I2, L2)) (h1 : (Nat.beq k1 215) = false) (h2 : (Nat.beq k1 219) = true) (h3 : (xe_cmp .ge (I2 76 5) (20 : Int32)) = false) (h4 : (xe_cmp .le a3 (8 : Int32)) = false) (c3 : fx_X7_fail [.int (4 : Int32), .ref 3] (I2, L2) (some (.int 0)) (I3, L3)) : ∃ n, xr_X8_readOne fC fO n (0, [(0, .ref 76), (1, .ref 3), (2, .ref 64), (3, .int a3)], [], (I, L)) (some (.int 0)) (I3, L3) := by
  refine xe_go 0 (s' := (1, [(0, .ref 76), (1, .ref 3), (2, .ref 64), (3, .int a3)], [.ref 3], (I, L))) rfl ?_
  refine xe_vir (n := 1) (f := fx_X7_key) rfl (Nat.le_of_ble_eq_true rfl) (List.mem_of_getElem? (i := 0) rfl) (Nat.le_of_ble_eq_true rfl) c1 ?_
  refine xe_go 2 (s' := (9, [(0, .ref 76), (1, .ref 3), (2, .ref 64), (3, .int a3), (4, .ref k1)], [.int (40 : Int32), .ref 3], (I1, L1))) rfl ?_
  refine xe_vir (n := 2) (f := fx_X7_isSign) rfl (Nat.le_of_ble_eq_true rfl) (List.mem_of_getElem? (i := 1) rfl) (Nat.le_of_ble_eq_true rfl) c2 ?_
  refine xe_bF 5 (A := (57, [(0, .ref 76), (1, .ref 3), (2, .ref 64), (3, .int a3), (4, .ref k1), (5, .int 0)], [], (I2, L2))) (B := (27, [(0, .ref 76), (1, .ref 3), (2, .ref 64), (3, .int a3), (4, .ref k1), (5, .int 0)], [], (I2, L2))) h1 rfl ?_
  refine xe_bT 2 (A := (57, [(0, .ref 76), (1, .ref 3), (2, .ref 64), (3, .int a3), (4, .ref k1), (5, .int 0)], [], (I2, L2))) (B := (35, [(0, .ref 76), (1, .ref 3), (2, .ref 64), (3, .int a3), (4, .ref k1), (5, .int 0)], [], (I2, L2))) h2 rfl ?_
  refine xe_bF 3 (A := (72, [(0, .ref 76), (1, .ref 3), (2, .ref 64), (3, .int a3), (4, .ref k1), (5, .int 0)], [], (I2, L2))) (B := (66, [(0, .ref 76), (1, .ref 3), (2, .ref 64), (3, .int a3), (4, .ref k1), (5, .int 0)], [], (I2, L2))) h3 rfl ?_
  refine xe_bF 2 (A := (78, [(0, .ref 76), (1, .ref 3), (2, .ref 64), (3, .int a3), (4, .ref k1), (5, .int 0)], [], (I2, L2))) (B := (72, [(0, .ref 76), (1, .ref 3), (2, .ref 64), (3, .int a3), (4, .ref k1), (5, .int 0)], [], (I2, L2))) h4 rfl ?_
  refine xe_go 1 (s' := (74, [(0, .ref 76), (1, .ref 3), (2, .ref 64), (3, .int a3), (4, .ref k1), (5, .int 0)], [.int (4 : Int32), .ref 3], (I2, L2))) rfl ?_
  refine xe_vir (n := 2) (f := fx_X7_fail) rfl (Nat.le_of_ble_eq_true rfl) (List.mem_of_getElem? (i := 4) rfl) (Nat.le_of_ble_eq_true rfl) c3 ?_
  exact xe_end rfl rfl rfl
set_option maxRecDepth 100000 in
theorem pt_X8_readOne_17 {fC : xe_F} {fO : xe_F} {a3 : Int32} {I I1 I2 I3 I4 : Nat → Nat → Int32} {L L1 L2 L3 L4 : Nat → Nat → Int64} {k1 : Nat} (c1 : fx_X7_key [.ref 3] (I, L) (some (.ref k1)) (I1, L1)) (c2 : fx_X7_isSign [.int (40 : Int32), .ref 3] (I1, L1) (some (.int 0)) (I2, L2)) (h1 : (Nat.beq k1 215) = false) (h2 : (Nat.beq k1 219) = false) (c3 : fx_X2_isPlain [.ref k1] (I2, L2) (some (.int 1)) (I3, L3)) (h3 : (xe_cmp .ge (I3 76 5) (20 : Int32)) = true) (c4 : fx_X7_fail [.int (4 : Int32), .ref 3] (I3, L3) (some (.int 0)) (I4, L4)) : ∃ n, xr_X8_readOne fC fO n (0, [(0, .ref 76), (1, .ref 3), (2, .ref 64), (3, .int a3)], [], (I, L)) (some (.int 0)) (I4, L4) := by
  refine xe_go 0 (s' := (1, [(0, .ref 76), (1, .ref 3), (2, .ref 64), (3, .int a3)], [.ref 3], (I, L))) rfl ?_
  refine xe_vir (n := 1) (f := fx_X7_key) rfl (Nat.le_of_ble_eq_true rfl) (List.mem_of_getElem? (i := 0) rfl) (Nat.le_of_ble_eq_true rfl) c1 ?_
  refine xe_go 2 (s' := (9, [(0, .ref 76), (1, .ref 3), (2, .ref 64), (3, .int a3), (4, .ref k1)], [.int (40 : Int32), .ref 3], (I1, L1))) rfl ?_
  refine xe_vir (n := 2) (f := fx_X7_isSign) rfl (Nat.le_of_ble_eq_true rfl) (List.mem_of_getElem? (i := 1) rfl) (Nat.le_of_ble_eq_true rfl) c2 ?_
  refine xe_bF 5 (A := (57, [(0, .ref 76), (1, .ref 3), (2, .ref 64), (3, .int a3), (4, .ref k1), (5, .int 0)], [], (I2, L2))) (B := (27, [(0, .ref 76), (1, .ref 3), (2, .ref 64), (3, .int a3), (4, .ref k1), (5, .int 0)], [], (I2, L2))) h1 rfl ?_
  refine xe_bF 2 (A := (57, [(0, .ref 76), (1, .ref 3), (2, .ref 64), (3, .int a3), (4, .ref k1), (5, .int 0)], [], (I2, L2))) (B := (35, [(0, .ref 76), (1, .ref 3), (2, .ref 64), (3, .int a3), (4, .ref k1), (5, .int 0)], [], (I2, L2))) h2 rfl ?_
  refine xe_go 0 (s' := (37, [(0, .ref 76), (1, .ref 3), (2, .ref 64), (3, .int a3), (4, .ref k1), (5, .int 0)], [.ref k1], (I2, L2))) rfl ?_
  refine xe_vir (n := 1) (f := fx_X2_isPlain) rfl (Nat.le_of_ble_eq_true rfl) (List.mem_of_getElem? (i := 2) rfl) (Nat.le_of_ble_eq_true rfl) c3 ?_
  refine xe_bT 4 (A := (72, [(0, .ref 76), (1, .ref 3), (2, .ref 64), (3, .int a3), (4, .ref k1), (5, .int 0)], [], (I3, L3))) (B := (66, [(0, .ref 76), (1, .ref 3), (2, .ref 64), (3, .int a3), (4, .ref k1), (5, .int 0)], [], (I3, L3))) h3 rfl ?_
  refine xe_go 1 (s' := (74, [(0, .ref 76), (1, .ref 3), (2, .ref 64), (3, .int a3), (4, .ref k1), (5, .int 0)], [.int (4 : Int32), .ref 3], (I3, L3))) rfl ?_
  refine xe_vir (n := 2) (f := fx_X7_fail) rfl (Nat.le_of_ble_eq_true rfl) (List.mem_of_getElem? (i := 4) rfl) (Nat.le_of_ble_eq_true rfl) c4 ?_
  exact xe_end rfl rfl rfl
set_option maxRecDepth 100000 in
theorem pt_X8_readOne_18 {fC : xe_F} {fO : xe_F} {a3 : Int32} {I I1 I2 I3 I4 I5 I6 : Nat → Nat → Int32} {L L1 L2 L3 L4 L5 L6 : Nat → Nat → Int64} {k1 : Nat} (c1 : fx_X7_key [.ref 3] (I, L) (some (.ref k1)) (I1, L1)) (c2 : fx_X7_isSign [.int (40 : Int32), .ref 3] (I1, L1) (some (.int 0)) (I2, L2)) (h1 : (Nat.beq k1 215) = false) (h2 : (Nat.beq k1 219) = false) (c3 : fx_X2_isPlain [.ref k1] (I2, L2) (some (.int 1)) (I3, L3)) (h3 : (xe_cmp .ge (I3 76 5) (20 : Int32)) = false) (h4 : (xe_cmp .le a3 (8 : Int32)) = true) (c4 : fx_X7_step [.ref 3] ((xu I3 76 5 ((I3 76 5) + (1 : Int32))), L3) none (I4, L4)) (h5 : (Nat.beq k1 215) = true) (c5 : fO [.int (a3 + (1 : Int32)), .ref 64, .ref 3, .ref 76] (I4, L4) (some (.int 1)) (I5, L5)) (c6 : fx_X8_add [.int (0 : Int32), .int (0 : Int32), .ref 215, .ref 76] (I5, L5) none (I6, L6)) : ∃ n, xr_X8_readOne fC fO n (0, [(0, .ref 76), (1, .ref 3), (2, .ref 64), (3, .int a3)], [], (I, L)) (some (.int 1)) (I6, L6) := by
  refine xe_go 0 (s' := (1, [(0, .ref 76), (1, .ref 3), (2, .ref 64), (3, .int a3)], [.ref 3], (I, L))) rfl ?_
  refine xe_vir (n := 1) (f := fx_X7_key) rfl (Nat.le_of_ble_eq_true rfl) (List.mem_of_getElem? (i := 0) rfl) (Nat.le_of_ble_eq_true rfl) c1 ?_
  refine xe_go 2 (s' := (9, [(0, .ref 76), (1, .ref 3), (2, .ref 64), (3, .int a3), (4, .ref k1)], [.int (40 : Int32), .ref 3], (I1, L1))) rfl ?_
  refine xe_vir (n := 2) (f := fx_X7_isSign) rfl (Nat.le_of_ble_eq_true rfl) (List.mem_of_getElem? (i := 1) rfl) (Nat.le_of_ble_eq_true rfl) c2 ?_
  refine xe_bF 5 (A := (57, [(0, .ref 76), (1, .ref 3), (2, .ref 64), (3, .int a3), (4, .ref k1), (5, .int 0)], [], (I2, L2))) (B := (27, [(0, .ref 76), (1, .ref 3), (2, .ref 64), (3, .int a3), (4, .ref k1), (5, .int 0)], [], (I2, L2))) h1 rfl ?_
  refine xe_bF 2 (A := (57, [(0, .ref 76), (1, .ref 3), (2, .ref 64), (3, .int a3), (4, .ref k1), (5, .int 0)], [], (I2, L2))) (B := (35, [(0, .ref 76), (1, .ref 3), (2, .ref 64), (3, .int a3), (4, .ref k1), (5, .int 0)], [], (I2, L2))) h2 rfl ?_
  refine xe_go 0 (s' := (37, [(0, .ref 76), (1, .ref 3), (2, .ref 64), (3, .int a3), (4, .ref k1), (5, .int 0)], [.ref k1], (I2, L2))) rfl ?_
  refine xe_vir (n := 1) (f := fx_X2_isPlain) rfl (Nat.le_of_ble_eq_true rfl) (List.mem_of_getElem? (i := 2) rfl) (Nat.le_of_ble_eq_true rfl) c3 ?_
  refine xe_bF 4 (A := (72, [(0, .ref 76), (1, .ref 3), (2, .ref 64), (3, .int a3), (4, .ref k1), (5, .int 0)], [], (I3, L3))) (B := (66, [(0, .ref 76), (1, .ref 3), (2, .ref 64), (3, .int a3), (4, .ref k1), (5, .int 0)], [], (I3, L3))) h3 rfl ?_
  refine xe_bT 2 (A := (78, [(0, .ref 76), (1, .ref 3), (2, .ref 64), (3, .int a3), (4, .ref k1), (5, .int 0)], [], (I3, L3))) (B := (72, [(0, .ref 76), (1, .ref 3), (2, .ref 64), (3, .int a3), (4, .ref k1), (5, .int 0)], [], (I3, L3))) h4 rfl ?_
  refine xe_go 6 (s' := (89, [(0, .ref 76), (1, .ref 3), (2, .ref 64), (3, .int a3), (4, .ref k1), (5, .int 0)], [.ref 3], ((xu I3 76 5 ((I3 76 5) + (1 : Int32))), L3))) rfl ?_
  refine xe_vir (n := 1) (f := fx_X7_step) rfl (Nat.le_of_ble_eq_true rfl) (List.mem_of_getElem? (i := 5) rfl) (Nat.le_of_ble_eq_true rfl) c4 ?_
  refine xe_bT 4 (A := (132, [(0, .ref 76), (1, .ref 3), (2, .ref 64), (3, .int a3), (4, .ref k1), (5, .int 0)], [], (I4, L4))) (B := (155, [(0, .ref 76), (1, .ref 3), (2, .ref 64), (3, .int a3), (4, .ref k1), (5, .int 0)], [], (I4, L4))) h5 rfl ?_
  refine xe_go 5 (s' := (138, [(0, .ref 76), (1, .ref 3), (2, .ref 64), (3, .int a3), (4, .ref k1), (5, .int 0)], [.int (a3 + (1 : Int32)), .ref 64, .ref 3, .ref 76], (I4, L4))) rfl ?_
  refine xe_vir (n := 4) (f := fO) rfl (Nat.le_of_ble_eq_true rfl) (List.mem_of_getElem? (i := 8) rfl) (Nat.le_of_ble_eq_true rfl) c5 ?_
  refine xe_go 4 (s' := (149, [(0, .ref 76), (1, .ref 3), (2, .ref 64), (3, .int a3), (4, .ref k1), (5, .int 0), (6, .int 1)], [.int (0 : Int32), .int (0 : Int32), .ref 215, .ref 76], (I5, L5))) rfl ?_
  refine xe_vir (n := 4) (f := fx_X8_add) rfl (Nat.le_of_ble_eq_true rfl) (List.mem_of_getElem? (i := 9) rfl) (Nat.le_of_ble_eq_true rfl) c6 ?_
  refine xe_go 0 (s' := (154, [(0, .ref 76), (1, .ref 3), (2, .ref 64), (3, .int a3), (4, .ref k1), (5, .int 0), (6, .int 1)], [.int 1], (I6, L6))) rfl ?_
  exact xe_end rfl rfl rfl
set_option maxRecDepth 100000 in
theorem pt_X8_readOne_19 {fC : xe_F} {fO : xe_F} {a3 : Int32} {I I1 I2 I3 I4 I5 I6 : Nat → Nat → Int32} {L L1 L2 L3 L4 L5 L6 : Nat → Nat → Int64} {k1 : Nat} (c1 : fx_X7_key [.ref 3] (I, L) (some (.ref k1)) (I1, L1)) (c2 : fx_X7_isSign [.int (40 : Int32), .ref 3] (I1, L1) (some (.int 0)) (I2, L2)) (h1 : (Nat.beq k1 215) = false) (h2 : (Nat.beq k1 219) = false) (c3 : fx_X2_isPlain [.ref k1] (I2, L2) (some (.int 1)) (I3, L3)) (h3 : (xe_cmp .ge (I3 76 5) (20 : Int32)) = false) (h4 : (xe_cmp .le a3 (8 : Int32)) = true) (c4 : fx_X7_step [.ref 3] ((xu I3 76 5 ((I3 76 5) + (1 : Int32))), L3) none (I4, L4)) (h5 : (Nat.beq k1 215) = true) (c5 : fO [.int (a3 + (1 : Int32)), .ref 64, .ref 3, .ref 76] (I4, L4) (some (.int 0)) (I5, L5)) (c6 : fx_X8_add [.int (0 : Int32), .int (0 : Int32), .ref 215, .ref 76] (I5, L5) none (I6, L6)) : ∃ n, xr_X8_readOne fC fO n (0, [(0, .ref 76), (1, .ref 3), (2, .ref 64), (3, .int a3)], [], (I, L)) (some (.int 0)) (I6, L6) := by
  refine xe_go 0 (s' := (1, [(0, .ref 76), (1, .ref 3), (2, .ref 64), (3, .int a3)], [.ref 3], (I, L))) rfl ?_
  refine xe_vir (n := 1) (f := fx_X7_key) rfl (Nat.le_of_ble_eq_true rfl) (List.mem_of_getElem? (i := 0) rfl) (Nat.le_of_ble_eq_true rfl) c1 ?_
  refine xe_go 2 (s' := (9, [(0, .ref 76), (1, .ref 3), (2, .ref 64), (3, .int a3), (4, .ref k1)], [.int (40 : Int32), .ref 3], (I1, L1))) rfl ?_
  refine xe_vir (n := 2) (f := fx_X7_isSign) rfl (Nat.le_of_ble_eq_true rfl) (List.mem_of_getElem? (i := 1) rfl) (Nat.le_of_ble_eq_true rfl) c2 ?_
  refine xe_bF 5 (A := (57, [(0, .ref 76), (1, .ref 3), (2, .ref 64), (3, .int a3), (4, .ref k1), (5, .int 0)], [], (I2, L2))) (B := (27, [(0, .ref 76), (1, .ref 3), (2, .ref 64), (3, .int a3), (4, .ref k1), (5, .int 0)], [], (I2, L2))) h1 rfl ?_
  refine xe_bF 2 (A := (57, [(0, .ref 76), (1, .ref 3), (2, .ref 64), (3, .int a3), (4, .ref k1), (5, .int 0)], [], (I2, L2))) (B := (35, [(0, .ref 76), (1, .ref 3), (2, .ref 64), (3, .int a3), (4, .ref k1), (5, .int 0)], [], (I2, L2))) h2 rfl ?_
  refine xe_go 0 (s' := (37, [(0, .ref 76), (1, .ref 3), (2, .ref 64), (3, .int a3), (4, .ref k1), (5, .int 0)], [.ref k1], (I2, L2))) rfl ?_
  refine xe_vir (n := 1) (f := fx_X2_isPlain) rfl (Nat.le_of_ble_eq_true rfl) (List.mem_of_getElem? (i := 2) rfl) (Nat.le_of_ble_eq_true rfl) c3 ?_
  refine xe_bF 4 (A := (72, [(0, .ref 76), (1, .ref 3), (2, .ref 64), (3, .int a3), (4, .ref k1), (5, .int 0)], [], (I3, L3))) (B := (66, [(0, .ref 76), (1, .ref 3), (2, .ref 64), (3, .int a3), (4, .ref k1), (5, .int 0)], [], (I3, L3))) h3 rfl ?_
  refine xe_bT 2 (A := (78, [(0, .ref 76), (1, .ref 3), (2, .ref 64), (3, .int a3), (4, .ref k1), (5, .int 0)], [], (I3, L3))) (B := (72, [(0, .ref 76), (1, .ref 3), (2, .ref 64), (3, .int a3), (4, .ref k1), (5, .int 0)], [], (I3, L3))) h4 rfl ?_
  refine xe_go 6 (s' := (89, [(0, .ref 76), (1, .ref 3), (2, .ref 64), (3, .int a3), (4, .ref k1), (5, .int 0)], [.ref 3], ((xu I3 76 5 ((I3 76 5) + (1 : Int32))), L3))) rfl ?_
  refine xe_vir (n := 1) (f := fx_X7_step) rfl (Nat.le_of_ble_eq_true rfl) (List.mem_of_getElem? (i := 5) rfl) (Nat.le_of_ble_eq_true rfl) c4 ?_
  refine xe_bT 4 (A := (132, [(0, .ref 76), (1, .ref 3), (2, .ref 64), (3, .int a3), (4, .ref k1), (5, .int 0)], [], (I4, L4))) (B := (155, [(0, .ref 76), (1, .ref 3), (2, .ref 64), (3, .int a3), (4, .ref k1), (5, .int 0)], [], (I4, L4))) h5 rfl ?_
  refine xe_go 5 (s' := (138, [(0, .ref 76), (1, .ref 3), (2, .ref 64), (3, .int a3), (4, .ref k1), (5, .int 0)], [.int (a3 + (1 : Int32)), .ref 64, .ref 3, .ref 76], (I4, L4))) rfl ?_
  refine xe_vir (n := 4) (f := fO) rfl (Nat.le_of_ble_eq_true rfl) (List.mem_of_getElem? (i := 8) rfl) (Nat.le_of_ble_eq_true rfl) c5 ?_
  refine xe_go 4 (s' := (149, [(0, .ref 76), (1, .ref 3), (2, .ref 64), (3, .int a3), (4, .ref k1), (5, .int 0), (6, .int 0)], [.int (0 : Int32), .int (0 : Int32), .ref 215, .ref 76], (I5, L5))) rfl ?_
  refine xe_vir (n := 4) (f := fx_X8_add) rfl (Nat.le_of_ble_eq_true rfl) (List.mem_of_getElem? (i := 9) rfl) (Nat.le_of_ble_eq_true rfl) c6 ?_
  refine xe_go 0 (s' := (154, [(0, .ref 76), (1, .ref 3), (2, .ref 64), (3, .int a3), (4, .ref k1), (5, .int 0), (6, .int 0)], [.int 0], (I6, L6))) rfl ?_
  exact xe_end rfl rfl rfl
set_option maxRecDepth 100000 in
theorem pt_X8_readOne_20 {fC : xe_F} {fO : xe_F} {a3 : Int32} {I I1 I2 I3 I4 I5 : Nat → Nat → Int32} {L L1 L2 L3 L4 L5 : Nat → Nat → Int64} {k1 : Nat} (c1 : fx_X7_key [.ref 3] (I, L) (some (.ref k1)) (I1, L1)) (c2 : fx_X7_isSign [.int (40 : Int32), .ref 3] (I1, L1) (some (.int 0)) (I2, L2)) (h1 : (Nat.beq k1 215) = false) (h2 : (Nat.beq k1 219) = false) (c3 : fx_X2_isPlain [.ref k1] (I2, L2) (some (.int 1)) (I3, L3)) (h3 : (xe_cmp .ge (I3 76 5) (20 : Int32)) = false) (h4 : (xe_cmp .le a3 (8 : Int32)) = true) (c4 : fx_X7_step [.ref 3] ((xu I3 76 5 ((I3 76 5) + (1 : Int32))), L3) none (I4, L4)) (h5 : (Nat.beq k1 215) = false) (c5 : fx_X8_readSimple [.ref k1, .ref 64, .ref 3, .ref 76] (I4, L4) (some (.int 1)) (I5, L5)) : ∃ n, xr_X8_readOne fC fO n (0, [(0, .ref 76), (1, .ref 3), (2, .ref 64), (3, .int a3)], [], (I, L)) (some (.int 1)) (I5, L5) := by
  refine xe_go 0 (s' := (1, [(0, .ref 76), (1, .ref 3), (2, .ref 64), (3, .int a3)], [.ref 3], (I, L))) rfl ?_
  refine xe_vir (n := 1) (f := fx_X7_key) rfl (Nat.le_of_ble_eq_true rfl) (List.mem_of_getElem? (i := 0) rfl) (Nat.le_of_ble_eq_true rfl) c1 ?_
  refine xe_go 2 (s' := (9, [(0, .ref 76), (1, .ref 3), (2, .ref 64), (3, .int a3), (4, .ref k1)], [.int (40 : Int32), .ref 3], (I1, L1))) rfl ?_
  refine xe_vir (n := 2) (f := fx_X7_isSign) rfl (Nat.le_of_ble_eq_true rfl) (List.mem_of_getElem? (i := 1) rfl) (Nat.le_of_ble_eq_true rfl) c2 ?_
  refine xe_bF 5 (A := (57, [(0, .ref 76), (1, .ref 3), (2, .ref 64), (3, .int a3), (4, .ref k1), (5, .int 0)], [], (I2, L2))) (B := (27, [(0, .ref 76), (1, .ref 3), (2, .ref 64), (3, .int a3), (4, .ref k1), (5, .int 0)], [], (I2, L2))) h1 rfl ?_
  refine xe_bF 2 (A := (57, [(0, .ref 76), (1, .ref 3), (2, .ref 64), (3, .int a3), (4, .ref k1), (5, .int 0)], [], (I2, L2))) (B := (35, [(0, .ref 76), (1, .ref 3), (2, .ref 64), (3, .int a3), (4, .ref k1), (5, .int 0)], [], (I2, L2))) h2 rfl ?_
  refine xe_go 0 (s' := (37, [(0, .ref 76), (1, .ref 3), (2, .ref 64), (3, .int a3), (4, .ref k1), (5, .int 0)], [.ref k1], (I2, L2))) rfl ?_
  refine xe_vir (n := 1) (f := fx_X2_isPlain) rfl (Nat.le_of_ble_eq_true rfl) (List.mem_of_getElem? (i := 2) rfl) (Nat.le_of_ble_eq_true rfl) c3 ?_
  refine xe_bF 4 (A := (72, [(0, .ref 76), (1, .ref 3), (2, .ref 64), (3, .int a3), (4, .ref k1), (5, .int 0)], [], (I3, L3))) (B := (66, [(0, .ref 76), (1, .ref 3), (2, .ref 64), (3, .int a3), (4, .ref k1), (5, .int 0)], [], (I3, L3))) h3 rfl ?_
  refine xe_bT 2 (A := (78, [(0, .ref 76), (1, .ref 3), (2, .ref 64), (3, .int a3), (4, .ref k1), (5, .int 0)], [], (I3, L3))) (B := (72, [(0, .ref 76), (1, .ref 3), (2, .ref 64), (3, .int a3), (4, .ref k1), (5, .int 0)], [], (I3, L3))) h4 rfl ?_
  refine xe_go 6 (s' := (89, [(0, .ref 76), (1, .ref 3), (2, .ref 64), (3, .int a3), (4, .ref k1), (5, .int 0)], [.ref 3], ((xu I3 76 5 ((I3 76 5) + (1 : Int32))), L3))) rfl ?_
  refine xe_vir (n := 1) (f := fx_X7_step) rfl (Nat.le_of_ble_eq_true rfl) (List.mem_of_getElem? (i := 5) rfl) (Nat.le_of_ble_eq_true rfl) c4 ?_
  refine xe_bF 4 (A := (132, [(0, .ref 76), (1, .ref 3), (2, .ref 64), (3, .int a3), (4, .ref k1), (5, .int 0)], [], (I4, L4))) (B := (155, [(0, .ref 76), (1, .ref 3), (2, .ref 64), (3, .int a3), (4, .ref k1), (5, .int 0)], [], (I4, L4))) h5 rfl ?_
  refine xe_go 3 (s' := (160, [(0, .ref 76), (1, .ref 3), (2, .ref 64), (3, .int a3), (4, .ref k1), (5, .int 0)], [.ref k1, .ref 64, .ref 3, .ref 76], (I4, L4))) rfl ?_
  refine xe_vir (n := 4) (f := fx_X8_readSimple) rfl (Nat.le_of_ble_eq_true rfl) (List.mem_of_getElem? (i := 10) rfl) (Nat.le_of_ble_eq_true rfl) c5 ?_
  exact xe_end rfl rfl rfl
set_option maxRecDepth 100000 in
theorem pt_X8_readOne_21 {fC : xe_F} {fO : xe_F} {a3 : Int32} {I I1 I2 I3 I4 I5 : Nat → Nat → Int32} {L L1 L2 L3 L4 L5 : Nat → Nat → Int64} {k1 : Nat} (c1 : fx_X7_key [.ref 3] (I, L) (some (.ref k1)) (I1, L1)) (c2 : fx_X7_isSign [.int (40 : Int32), .ref 3] (I1, L1) (some (.int 0)) (I2, L2)) (h1 : (Nat.beq k1 215) = false) (h2 : (Nat.beq k1 219) = false) (c3 : fx_X2_isPlain [.ref k1] (I2, L2) (some (.int 1)) (I3, L3)) (h3 : (xe_cmp .ge (I3 76 5) (20 : Int32)) = false) (h4 : (xe_cmp .le a3 (8 : Int32)) = true) (c4 : fx_X7_step [.ref 3] ((xu I3 76 5 ((I3 76 5) + (1 : Int32))), L3) none (I4, L4)) (h5 : (Nat.beq k1 215) = false) (c5 : fx_X8_readSimple [.ref k1, .ref 64, .ref 3, .ref 76] (I4, L4) (some (.int 0)) (I5, L5)) : ∃ n, xr_X8_readOne fC fO n (0, [(0, .ref 76), (1, .ref 3), (2, .ref 64), (3, .int a3)], [], (I, L)) (some (.int 0)) (I5, L5) := by
  refine xe_go 0 (s' := (1, [(0, .ref 76), (1, .ref 3), (2, .ref 64), (3, .int a3)], [.ref 3], (I, L))) rfl ?_
  refine xe_vir (n := 1) (f := fx_X7_key) rfl (Nat.le_of_ble_eq_true rfl) (List.mem_of_getElem? (i := 0) rfl) (Nat.le_of_ble_eq_true rfl) c1 ?_
  refine xe_go 2 (s' := (9, [(0, .ref 76), (1, .ref 3), (2, .ref 64), (3, .int a3), (4, .ref k1)], [.int (40 : Int32), .ref 3], (I1, L1))) rfl ?_
  refine xe_vir (n := 2) (f := fx_X7_isSign) rfl (Nat.le_of_ble_eq_true rfl) (List.mem_of_getElem? (i := 1) rfl) (Nat.le_of_ble_eq_true rfl) c2 ?_
  refine xe_bF 5 (A := (57, [(0, .ref 76), (1, .ref 3), (2, .ref 64), (3, .int a3), (4, .ref k1), (5, .int 0)], [], (I2, L2))) (B := (27, [(0, .ref 76), (1, .ref 3), (2, .ref 64), (3, .int a3), (4, .ref k1), (5, .int 0)], [], (I2, L2))) h1 rfl ?_
  refine xe_bF 2 (A := (57, [(0, .ref 76), (1, .ref 3), (2, .ref 64), (3, .int a3), (4, .ref k1), (5, .int 0)], [], (I2, L2))) (B := (35, [(0, .ref 76), (1, .ref 3), (2, .ref 64), (3, .int a3), (4, .ref k1), (5, .int 0)], [], (I2, L2))) h2 rfl ?_
  refine xe_go 0 (s' := (37, [(0, .ref 76), (1, .ref 3), (2, .ref 64), (3, .int a3), (4, .ref k1), (5, .int 0)], [.ref k1], (I2, L2))) rfl ?_
  refine xe_vir (n := 1) (f := fx_X2_isPlain) rfl (Nat.le_of_ble_eq_true rfl) (List.mem_of_getElem? (i := 2) rfl) (Nat.le_of_ble_eq_true rfl) c3 ?_
  refine xe_bF 4 (A := (72, [(0, .ref 76), (1, .ref 3), (2, .ref 64), (3, .int a3), (4, .ref k1), (5, .int 0)], [], (I3, L3))) (B := (66, [(0, .ref 76), (1, .ref 3), (2, .ref 64), (3, .int a3), (4, .ref k1), (5, .int 0)], [], (I3, L3))) h3 rfl ?_
  refine xe_bT 2 (A := (78, [(0, .ref 76), (1, .ref 3), (2, .ref 64), (3, .int a3), (4, .ref k1), (5, .int 0)], [], (I3, L3))) (B := (72, [(0, .ref 76), (1, .ref 3), (2, .ref 64), (3, .int a3), (4, .ref k1), (5, .int 0)], [], (I3, L3))) h4 rfl ?_
  refine xe_go 6 (s' := (89, [(0, .ref 76), (1, .ref 3), (2, .ref 64), (3, .int a3), (4, .ref k1), (5, .int 0)], [.ref 3], ((xu I3 76 5 ((I3 76 5) + (1 : Int32))), L3))) rfl ?_
  refine xe_vir (n := 1) (f := fx_X7_step) rfl (Nat.le_of_ble_eq_true rfl) (List.mem_of_getElem? (i := 5) rfl) (Nat.le_of_ble_eq_true rfl) c4 ?_
  refine xe_bF 4 (A := (132, [(0, .ref 76), (1, .ref 3), (2, .ref 64), (3, .int a3), (4, .ref k1), (5, .int 0)], [], (I4, L4))) (B := (155, [(0, .ref 76), (1, .ref 3), (2, .ref 64), (3, .int a3), (4, .ref k1), (5, .int 0)], [], (I4, L4))) h5 rfl ?_
  refine xe_go 3 (s' := (160, [(0, .ref 76), (1, .ref 3), (2, .ref 64), (3, .int a3), (4, .ref k1), (5, .int 0)], [.ref k1, .ref 64, .ref 3, .ref 76], (I4, L4))) rfl ?_
  refine xe_vir (n := 4) (f := fx_X8_readSimple) rfl (Nat.le_of_ble_eq_true rfl) (List.mem_of_getElem? (i := 10) rfl) (Nat.le_of_ble_eq_true rfl) c5 ?_
  exact xe_end rfl rfl rfl
set_option maxRecDepth 100000 in
theorem pt_X8_readOne_22 {fC : xe_F} {fO : xe_F} {a3 : Int32} {I I1 I2 I3 I4 : Nat → Nat → Int32} {L L1 L2 L3 L4 : Nat → Nat → Int64} {k1 : Nat} (c1 : fx_X7_key [.ref 3] (I, L) (some (.ref k1)) (I1, L1)) (c2 : fx_X7_isSign [.int (40 : Int32), .ref 3] (I1, L1) (some (.int 0)) (I2, L2)) (h1 : (Nat.beq k1 215) = false) (h2 : (Nat.beq k1 219) = false) (c3 : fx_X2_isPlain [.ref k1] (I2, L2) (some (.int 1)) (I3, L3)) (h3 : (xe_cmp .ge (I3 76 5) (20 : Int32)) = false) (h4 : (xe_cmp .le a3 (8 : Int32)) = false) (c4 : fx_X7_fail [.int (4 : Int32), .ref 3] (I3, L3) (some (.int 0)) (I4, L4)) : ∃ n, xr_X8_readOne fC fO n (0, [(0, .ref 76), (1, .ref 3), (2, .ref 64), (3, .int a3)], [], (I, L)) (some (.int 0)) (I4, L4) := by
  refine xe_go 0 (s' := (1, [(0, .ref 76), (1, .ref 3), (2, .ref 64), (3, .int a3)], [.ref 3], (I, L))) rfl ?_
  refine xe_vir (n := 1) (f := fx_X7_key) rfl (Nat.le_of_ble_eq_true rfl) (List.mem_of_getElem? (i := 0) rfl) (Nat.le_of_ble_eq_true rfl) c1 ?_
  refine xe_go 2 (s' := (9, [(0, .ref 76), (1, .ref 3), (2, .ref 64), (3, .int a3), (4, .ref k1)], [.int (40 : Int32), .ref 3], (I1, L1))) rfl ?_
  refine xe_vir (n := 2) (f := fx_X7_isSign) rfl (Nat.le_of_ble_eq_true rfl) (List.mem_of_getElem? (i := 1) rfl) (Nat.le_of_ble_eq_true rfl) c2 ?_
  refine xe_bF 5 (A := (57, [(0, .ref 76), (1, .ref 3), (2, .ref 64), (3, .int a3), (4, .ref k1), (5, .int 0)], [], (I2, L2))) (B := (27, [(0, .ref 76), (1, .ref 3), (2, .ref 64), (3, .int a3), (4, .ref k1), (5, .int 0)], [], (I2, L2))) h1 rfl ?_
  refine xe_bF 2 (A := (57, [(0, .ref 76), (1, .ref 3), (2, .ref 64), (3, .int a3), (4, .ref k1), (5, .int 0)], [], (I2, L2))) (B := (35, [(0, .ref 76), (1, .ref 3), (2, .ref 64), (3, .int a3), (4, .ref k1), (5, .int 0)], [], (I2, L2))) h2 rfl ?_
  refine xe_go 0 (s' := (37, [(0, .ref 76), (1, .ref 3), (2, .ref 64), (3, .int a3), (4, .ref k1), (5, .int 0)], [.ref k1], (I2, L2))) rfl ?_
  refine xe_vir (n := 1) (f := fx_X2_isPlain) rfl (Nat.le_of_ble_eq_true rfl) (List.mem_of_getElem? (i := 2) rfl) (Nat.le_of_ble_eq_true rfl) c3 ?_
  refine xe_bF 4 (A := (72, [(0, .ref 76), (1, .ref 3), (2, .ref 64), (3, .int a3), (4, .ref k1), (5, .int 0)], [], (I3, L3))) (B := (66, [(0, .ref 76), (1, .ref 3), (2, .ref 64), (3, .int a3), (4, .ref k1), (5, .int 0)], [], (I3, L3))) h3 rfl ?_
  refine xe_bF 2 (A := (78, [(0, .ref 76), (1, .ref 3), (2, .ref 64), (3, .int a3), (4, .ref k1), (5, .int 0)], [], (I3, L3))) (B := (72, [(0, .ref 76), (1, .ref 3), (2, .ref 64), (3, .int a3), (4, .ref k1), (5, .int 0)], [], (I3, L3))) h4 rfl ?_
  refine xe_go 1 (s' := (74, [(0, .ref 76), (1, .ref 3), (2, .ref 64), (3, .int a3), (4, .ref k1), (5, .int 0)], [.int (4 : Int32), .ref 3], (I3, L3))) rfl ?_
  refine xe_vir (n := 2) (f := fx_X7_fail) rfl (Nat.le_of_ble_eq_true rfl) (List.mem_of_getElem? (i := 4) rfl) (Nat.le_of_ble_eq_true rfl) c4 ?_
  exact xe_end rfl rfl rfl
set_option maxRecDepth 100000 in
theorem pt_X8_readOne_23 {fC : xe_F} {fO : xe_F} {a3 : Int32} {I I1 I2 I3 I4 I5 : Nat → Nat → Int32} {L L1 L2 L3 L4 L5 : Nat → Nat → Int64} {k1 : Nat} (c1 : fx_X7_key [.ref 3] (I, L) (some (.ref k1)) (I1, L1)) (c2 : fx_X7_isSign [.int (40 : Int32), .ref 3] (I1, L1) (some (.int 0)) (I2, L2)) (h1 : (Nat.beq k1 215) = false) (h2 : (Nat.beq k1 219) = false) (c3 : fx_X2_isPlain [.ref k1] (I2, L2) (some (.int 0)) (I3, L3)) (c4 : fx_X2_isMeasure [.ref k1] (I3, L3) (some (.int 1)) (I4, L4)) (h3 : (xe_cmp .ge (I4 76 5) (20 : Int32)) = true) (c5 : fx_X7_fail [.int (4 : Int32), .ref 3] (I4, L4) (some (.int 0)) (I5, L5)) : ∃ n, xr_X8_readOne fC fO n (0, [(0, .ref 76), (1, .ref 3), (2, .ref 64), (3, .int a3)], [], (I, L)) (some (.int 0)) (I5, L5) := by
  refine xe_go 0 (s' := (1, [(0, .ref 76), (1, .ref 3), (2, .ref 64), (3, .int a3)], [.ref 3], (I, L))) rfl ?_
  refine xe_vir (n := 1) (f := fx_X7_key) rfl (Nat.le_of_ble_eq_true rfl) (List.mem_of_getElem? (i := 0) rfl) (Nat.le_of_ble_eq_true rfl) c1 ?_
  refine xe_go 2 (s' := (9, [(0, .ref 76), (1, .ref 3), (2, .ref 64), (3, .int a3), (4, .ref k1)], [.int (40 : Int32), .ref 3], (I1, L1))) rfl ?_
  refine xe_vir (n := 2) (f := fx_X7_isSign) rfl (Nat.le_of_ble_eq_true rfl) (List.mem_of_getElem? (i := 1) rfl) (Nat.le_of_ble_eq_true rfl) c2 ?_
  refine xe_bF 5 (A := (57, [(0, .ref 76), (1, .ref 3), (2, .ref 64), (3, .int a3), (4, .ref k1), (5, .int 0)], [], (I2, L2))) (B := (27, [(0, .ref 76), (1, .ref 3), (2, .ref 64), (3, .int a3), (4, .ref k1), (5, .int 0)], [], (I2, L2))) h1 rfl ?_
  refine xe_bF 2 (A := (57, [(0, .ref 76), (1, .ref 3), (2, .ref 64), (3, .int a3), (4, .ref k1), (5, .int 0)], [], (I2, L2))) (B := (35, [(0, .ref 76), (1, .ref 3), (2, .ref 64), (3, .int a3), (4, .ref k1), (5, .int 0)], [], (I2, L2))) h2 rfl ?_
  refine xe_go 0 (s' := (37, [(0, .ref 76), (1, .ref 3), (2, .ref 64), (3, .int a3), (4, .ref k1), (5, .int 0)], [.ref k1], (I2, L2))) rfl ?_
  refine xe_vir (n := 1) (f := fx_X2_isPlain) rfl (Nat.le_of_ble_eq_true rfl) (List.mem_of_getElem? (i := 2) rfl) (Nat.le_of_ble_eq_true rfl) c3 ?_
  refine xe_go 1 (s' := (45, [(0, .ref 76), (1, .ref 3), (2, .ref 64), (3, .int a3), (4, .ref k1), (5, .int 0)], [.ref k1], (I3, L3))) rfl ?_
  refine xe_vir (n := 1) (f := fx_X2_isMeasure) rfl (Nat.le_of_ble_eq_true rfl) (List.mem_of_getElem? (i := 3) rfl) (Nat.le_of_ble_eq_true rfl) c4 ?_
  refine xe_bT 4 (A := (72, [(0, .ref 76), (1, .ref 3), (2, .ref 64), (3, .int a3), (4, .ref k1), (5, .int 0)], [], (I4, L4))) (B := (66, [(0, .ref 76), (1, .ref 3), (2, .ref 64), (3, .int a3), (4, .ref k1), (5, .int 0)], [], (I4, L4))) h3 rfl ?_
  refine xe_go 1 (s' := (74, [(0, .ref 76), (1, .ref 3), (2, .ref 64), (3, .int a3), (4, .ref k1), (5, .int 0)], [.int (4 : Int32), .ref 3], (I4, L4))) rfl ?_
  refine xe_vir (n := 2) (f := fx_X7_fail) rfl (Nat.le_of_ble_eq_true rfl) (List.mem_of_getElem? (i := 4) rfl) (Nat.le_of_ble_eq_true rfl) c5 ?_
  exact xe_end rfl rfl rfl
set_option maxRecDepth 100000 in
theorem pt_X8_readOne_24 {fC : xe_F} {fO : xe_F} {a3 : Int32} {I I1 I2 I3 I4 I5 I6 I7 : Nat → Nat → Int32} {L L1 L2 L3 L4 L5 L6 L7 : Nat → Nat → Int64} {k1 : Nat} (c1 : fx_X7_key [.ref 3] (I, L) (some (.ref k1)) (I1, L1)) (c2 : fx_X7_isSign [.int (40 : Int32), .ref 3] (I1, L1) (some (.int 0)) (I2, L2)) (h1 : (Nat.beq k1 215) = false) (h2 : (Nat.beq k1 219) = false) (c3 : fx_X2_isPlain [.ref k1] (I2, L2) (some (.int 0)) (I3, L3)) (c4 : fx_X2_isMeasure [.ref k1] (I3, L3) (some (.int 1)) (I4, L4)) (h3 : (xe_cmp .ge (I4 76 5) (20 : Int32)) = false) (h4 : (xe_cmp .le a3 (8 : Int32)) = true) (c5 : fx_X7_step [.ref 3] ((xu I4 76 5 ((I4 76 5) + (1 : Int32))), L4) none (I5, L5)) (h5 : (Nat.beq k1 215) = true) (c6 : fO [.int (a3 + (1 : Int32)), .ref 64, .ref 3, .ref 76] (I5, L5) (some (.int 1)) (I6, L6)) (c7 : fx_X8_add [.int (0 : Int32), .int (0 : Int32), .ref 215, .ref 76] (I6, L6) none (I7, L7)) : ∃ n, xr_X8_readOne fC fO n (0, [(0, .ref 76), (1, .ref 3), (2, .ref 64), (3, .int a3)], [], (I, L)) (some (.int 1)) (I7, L7) := by
  refine xe_go 0 (s' := (1, [(0, .ref 76), (1, .ref 3), (2, .ref 64), (3, .int a3)], [.ref 3], (I, L))) rfl ?_
  refine xe_vir (n := 1) (f := fx_X7_key) rfl (Nat.le_of_ble_eq_true rfl) (List.mem_of_getElem? (i := 0) rfl) (Nat.le_of_ble_eq_true rfl) c1 ?_
  refine xe_go 2 (s' := (9, [(0, .ref 76), (1, .ref 3), (2, .ref 64), (3, .int a3), (4, .ref k1)], [.int (40 : Int32), .ref 3], (I1, L1))) rfl ?_
  refine xe_vir (n := 2) (f := fx_X7_isSign) rfl (Nat.le_of_ble_eq_true rfl) (List.mem_of_getElem? (i := 1) rfl) (Nat.le_of_ble_eq_true rfl) c2 ?_
  refine xe_bF 5 (A := (57, [(0, .ref 76), (1, .ref 3), (2, .ref 64), (3, .int a3), (4, .ref k1), (5, .int 0)], [], (I2, L2))) (B := (27, [(0, .ref 76), (1, .ref 3), (2, .ref 64), (3, .int a3), (4, .ref k1), (5, .int 0)], [], (I2, L2))) h1 rfl ?_
  refine xe_bF 2 (A := (57, [(0, .ref 76), (1, .ref 3), (2, .ref 64), (3, .int a3), (4, .ref k1), (5, .int 0)], [], (I2, L2))) (B := (35, [(0, .ref 76), (1, .ref 3), (2, .ref 64), (3, .int a3), (4, .ref k1), (5, .int 0)], [], (I2, L2))) h2 rfl ?_
  refine xe_go 0 (s' := (37, [(0, .ref 76), (1, .ref 3), (2, .ref 64), (3, .int a3), (4, .ref k1), (5, .int 0)], [.ref k1], (I2, L2))) rfl ?_
  refine xe_vir (n := 1) (f := fx_X2_isPlain) rfl (Nat.le_of_ble_eq_true rfl) (List.mem_of_getElem? (i := 2) rfl) (Nat.le_of_ble_eq_true rfl) c3 ?_
  refine xe_go 1 (s' := (45, [(0, .ref 76), (1, .ref 3), (2, .ref 64), (3, .int a3), (4, .ref k1), (5, .int 0)], [.ref k1], (I3, L3))) rfl ?_
  refine xe_vir (n := 1) (f := fx_X2_isMeasure) rfl (Nat.le_of_ble_eq_true rfl) (List.mem_of_getElem? (i := 3) rfl) (Nat.le_of_ble_eq_true rfl) c4 ?_
  refine xe_bF 4 (A := (72, [(0, .ref 76), (1, .ref 3), (2, .ref 64), (3, .int a3), (4, .ref k1), (5, .int 0)], [], (I4, L4))) (B := (66, [(0, .ref 76), (1, .ref 3), (2, .ref 64), (3, .int a3), (4, .ref k1), (5, .int 0)], [], (I4, L4))) h3 rfl ?_
  refine xe_bT 2 (A := (78, [(0, .ref 76), (1, .ref 3), (2, .ref 64), (3, .int a3), (4, .ref k1), (5, .int 0)], [], (I4, L4))) (B := (72, [(0, .ref 76), (1, .ref 3), (2, .ref 64), (3, .int a3), (4, .ref k1), (5, .int 0)], [], (I4, L4))) h4 rfl ?_
  refine xe_go 6 (s' := (89, [(0, .ref 76), (1, .ref 3), (2, .ref 64), (3, .int a3), (4, .ref k1), (5, .int 0)], [.ref 3], ((xu I4 76 5 ((I4 76 5) + (1 : Int32))), L4))) rfl ?_
  refine xe_vir (n := 1) (f := fx_X7_step) rfl (Nat.le_of_ble_eq_true rfl) (List.mem_of_getElem? (i := 5) rfl) (Nat.le_of_ble_eq_true rfl) c5 ?_
  refine xe_bT 4 (A := (132, [(0, .ref 76), (1, .ref 3), (2, .ref 64), (3, .int a3), (4, .ref k1), (5, .int 0)], [], (I5, L5))) (B := (155, [(0, .ref 76), (1, .ref 3), (2, .ref 64), (3, .int a3), (4, .ref k1), (5, .int 0)], [], (I5, L5))) h5 rfl ?_
  refine xe_go 5 (s' := (138, [(0, .ref 76), (1, .ref 3), (2, .ref 64), (3, .int a3), (4, .ref k1), (5, .int 0)], [.int (a3 + (1 : Int32)), .ref 64, .ref 3, .ref 76], (I5, L5))) rfl ?_
  refine xe_vir (n := 4) (f := fO) rfl (Nat.le_of_ble_eq_true rfl) (List.mem_of_getElem? (i := 8) rfl) (Nat.le_of_ble_eq_true rfl) c6 ?_
  refine xe_go 4 (s' := (149, [(0, .ref 76), (1, .ref 3), (2, .ref 64), (3, .int a3), (4, .ref k1), (5, .int 0), (6, .int 1)], [.int (0 : Int32), .int (0 : Int32), .ref 215, .ref 76], (I6, L6))) rfl ?_
  refine xe_vir (n := 4) (f := fx_X8_add) rfl (Nat.le_of_ble_eq_true rfl) (List.mem_of_getElem? (i := 9) rfl) (Nat.le_of_ble_eq_true rfl) c7 ?_
  refine xe_go 0 (s' := (154, [(0, .ref 76), (1, .ref 3), (2, .ref 64), (3, .int a3), (4, .ref k1), (5, .int 0), (6, .int 1)], [.int 1], (I7, L7))) rfl ?_
  exact xe_end rfl rfl rfl
set_option maxRecDepth 100000 in
theorem pt_X8_readOne_25 {fC : xe_F} {fO : xe_F} {a3 : Int32} {I I1 I2 I3 I4 I5 I6 I7 : Nat → Nat → Int32} {L L1 L2 L3 L4 L5 L6 L7 : Nat → Nat → Int64} {k1 : Nat} (c1 : fx_X7_key [.ref 3] (I, L) (some (.ref k1)) (I1, L1)) (c2 : fx_X7_isSign [.int (40 : Int32), .ref 3] (I1, L1) (some (.int 0)) (I2, L2)) (h1 : (Nat.beq k1 215) = false) (h2 : (Nat.beq k1 219) = false) (c3 : fx_X2_isPlain [.ref k1] (I2, L2) (some (.int 0)) (I3, L3)) (c4 : fx_X2_isMeasure [.ref k1] (I3, L3) (some (.int 1)) (I4, L4)) (h3 : (xe_cmp .ge (I4 76 5) (20 : Int32)) = false) (h4 : (xe_cmp .le a3 (8 : Int32)) = true) (c5 : fx_X7_step [.ref 3] ((xu I4 76 5 ((I4 76 5) + (1 : Int32))), L4) none (I5, L5)) (h5 : (Nat.beq k1 215) = true) (c6 : fO [.int (a3 + (1 : Int32)), .ref 64, .ref 3, .ref 76] (I5, L5) (some (.int 0)) (I6, L6)) (c7 : fx_X8_add [.int (0 : Int32), .int (0 : Int32), .ref 215, .ref 76] (I6, L6) none (I7, L7)) : ∃ n, xr_X8_readOne fC fO n (0, [(0, .ref 76), (1, .ref 3), (2, .ref 64), (3, .int a3)], [], (I, L)) (some (.int 0)) (I7, L7) := by
  refine xe_go 0 (s' := (1, [(0, .ref 76), (1, .ref 3), (2, .ref 64), (3, .int a3)], [.ref 3], (I, L))) rfl ?_
  refine xe_vir (n := 1) (f := fx_X7_key) rfl (Nat.le_of_ble_eq_true rfl) (List.mem_of_getElem? (i := 0) rfl) (Nat.le_of_ble_eq_true rfl) c1 ?_
  refine xe_go 2 (s' := (9, [(0, .ref 76), (1, .ref 3), (2, .ref 64), (3, .int a3), (4, .ref k1)], [.int (40 : Int32), .ref 3], (I1, L1))) rfl ?_
  refine xe_vir (n := 2) (f := fx_X7_isSign) rfl (Nat.le_of_ble_eq_true rfl) (List.mem_of_getElem? (i := 1) rfl) (Nat.le_of_ble_eq_true rfl) c2 ?_
  refine xe_bF 5 (A := (57, [(0, .ref 76), (1, .ref 3), (2, .ref 64), (3, .int a3), (4, .ref k1), (5, .int 0)], [], (I2, L2))) (B := (27, [(0, .ref 76), (1, .ref 3), (2, .ref 64), (3, .int a3), (4, .ref k1), (5, .int 0)], [], (I2, L2))) h1 rfl ?_
  refine xe_bF 2 (A := (57, [(0, .ref 76), (1, .ref 3), (2, .ref 64), (3, .int a3), (4, .ref k1), (5, .int 0)], [], (I2, L2))) (B := (35, [(0, .ref 76), (1, .ref 3), (2, .ref 64), (3, .int a3), (4, .ref k1), (5, .int 0)], [], (I2, L2))) h2 rfl ?_
  refine xe_go 0 (s' := (37, [(0, .ref 76), (1, .ref 3), (2, .ref 64), (3, .int a3), (4, .ref k1), (5, .int 0)], [.ref k1], (I2, L2))) rfl ?_
  refine xe_vir (n := 1) (f := fx_X2_isPlain) rfl (Nat.le_of_ble_eq_true rfl) (List.mem_of_getElem? (i := 2) rfl) (Nat.le_of_ble_eq_true rfl) c3 ?_
  refine xe_go 1 (s' := (45, [(0, .ref 76), (1, .ref 3), (2, .ref 64), (3, .int a3), (4, .ref k1), (5, .int 0)], [.ref k1], (I3, L3))) rfl ?_
  refine xe_vir (n := 1) (f := fx_X2_isMeasure) rfl (Nat.le_of_ble_eq_true rfl) (List.mem_of_getElem? (i := 3) rfl) (Nat.le_of_ble_eq_true rfl) c4 ?_
  refine xe_bF 4 (A := (72, [(0, .ref 76), (1, .ref 3), (2, .ref 64), (3, .int a3), (4, .ref k1), (5, .int 0)], [], (I4, L4))) (B := (66, [(0, .ref 76), (1, .ref 3), (2, .ref 64), (3, .int a3), (4, .ref k1), (5, .int 0)], [], (I4, L4))) h3 rfl ?_
  refine xe_bT 2 (A := (78, [(0, .ref 76), (1, .ref 3), (2, .ref 64), (3, .int a3), (4, .ref k1), (5, .int 0)], [], (I4, L4))) (B := (72, [(0, .ref 76), (1, .ref 3), (2, .ref 64), (3, .int a3), (4, .ref k1), (5, .int 0)], [], (I4, L4))) h4 rfl ?_
  refine xe_go 6 (s' := (89, [(0, .ref 76), (1, .ref 3), (2, .ref 64), (3, .int a3), (4, .ref k1), (5, .int 0)], [.ref 3], ((xu I4 76 5 ((I4 76 5) + (1 : Int32))), L4))) rfl ?_
  refine xe_vir (n := 1) (f := fx_X7_step) rfl (Nat.le_of_ble_eq_true rfl) (List.mem_of_getElem? (i := 5) rfl) (Nat.le_of_ble_eq_true rfl) c5 ?_
  refine xe_bT 4 (A := (132, [(0, .ref 76), (1, .ref 3), (2, .ref 64), (3, .int a3), (4, .ref k1), (5, .int 0)], [], (I5, L5))) (B := (155, [(0, .ref 76), (1, .ref 3), (2, .ref 64), (3, .int a3), (4, .ref k1), (5, .int 0)], [], (I5, L5))) h5 rfl ?_
  refine xe_go 5 (s' := (138, [(0, .ref 76), (1, .ref 3), (2, .ref 64), (3, .int a3), (4, .ref k1), (5, .int 0)], [.int (a3 + (1 : Int32)), .ref 64, .ref 3, .ref 76], (I5, L5))) rfl ?_
  refine xe_vir (n := 4) (f := fO) rfl (Nat.le_of_ble_eq_true rfl) (List.mem_of_getElem? (i := 8) rfl) (Nat.le_of_ble_eq_true rfl) c6 ?_
  refine xe_go 4 (s' := (149, [(0, .ref 76), (1, .ref 3), (2, .ref 64), (3, .int a3), (4, .ref k1), (5, .int 0), (6, .int 0)], [.int (0 : Int32), .int (0 : Int32), .ref 215, .ref 76], (I6, L6))) rfl ?_
  refine xe_vir (n := 4) (f := fx_X8_add) rfl (Nat.le_of_ble_eq_true rfl) (List.mem_of_getElem? (i := 9) rfl) (Nat.le_of_ble_eq_true rfl) c7 ?_
  refine xe_go 0 (s' := (154, [(0, .ref 76), (1, .ref 3), (2, .ref 64), (3, .int a3), (4, .ref k1), (5, .int 0), (6, .int 0)], [.int 0], (I7, L7))) rfl ?_
  exact xe_end rfl rfl rfl
set_option maxRecDepth 100000 in
theorem pt_X8_readOne_26 {fC : xe_F} {fO : xe_F} {a3 : Int32} {I I1 I2 I3 I4 I5 I6 : Nat → Nat → Int32} {L L1 L2 L3 L4 L5 L6 : Nat → Nat → Int64} {k1 : Nat} (c1 : fx_X7_key [.ref 3] (I, L) (some (.ref k1)) (I1, L1)) (c2 : fx_X7_isSign [.int (40 : Int32), .ref 3] (I1, L1) (some (.int 0)) (I2, L2)) (h1 : (Nat.beq k1 215) = false) (h2 : (Nat.beq k1 219) = false) (c3 : fx_X2_isPlain [.ref k1] (I2, L2) (some (.int 0)) (I3, L3)) (c4 : fx_X2_isMeasure [.ref k1] (I3, L3) (some (.int 1)) (I4, L4)) (h3 : (xe_cmp .ge (I4 76 5) (20 : Int32)) = false) (h4 : (xe_cmp .le a3 (8 : Int32)) = true) (c5 : fx_X7_step [.ref 3] ((xu I4 76 5 ((I4 76 5) + (1 : Int32))), L4) none (I5, L5)) (h5 : (Nat.beq k1 215) = false) (c6 : fx_X8_readSimple [.ref k1, .ref 64, .ref 3, .ref 76] (I5, L5) (some (.int 1)) (I6, L6)) : ∃ n, xr_X8_readOne fC fO n (0, [(0, .ref 76), (1, .ref 3), (2, .ref 64), (3, .int a3)], [], (I, L)) (some (.int 1)) (I6, L6) := by
  refine xe_go 0 (s' := (1, [(0, .ref 76), (1, .ref 3), (2, .ref 64), (3, .int a3)], [.ref 3], (I, L))) rfl ?_
  refine xe_vir (n := 1) (f := fx_X7_key) rfl (Nat.le_of_ble_eq_true rfl) (List.mem_of_getElem? (i := 0) rfl) (Nat.le_of_ble_eq_true rfl) c1 ?_
  refine xe_go 2 (s' := (9, [(0, .ref 76), (1, .ref 3), (2, .ref 64), (3, .int a3), (4, .ref k1)], [.int (40 : Int32), .ref 3], (I1, L1))) rfl ?_
  refine xe_vir (n := 2) (f := fx_X7_isSign) rfl (Nat.le_of_ble_eq_true rfl) (List.mem_of_getElem? (i := 1) rfl) (Nat.le_of_ble_eq_true rfl) c2 ?_
  refine xe_bF 5 (A := (57, [(0, .ref 76), (1, .ref 3), (2, .ref 64), (3, .int a3), (4, .ref k1), (5, .int 0)], [], (I2, L2))) (B := (27, [(0, .ref 76), (1, .ref 3), (2, .ref 64), (3, .int a3), (4, .ref k1), (5, .int 0)], [], (I2, L2))) h1 rfl ?_
  refine xe_bF 2 (A := (57, [(0, .ref 76), (1, .ref 3), (2, .ref 64), (3, .int a3), (4, .ref k1), (5, .int 0)], [], (I2, L2))) (B := (35, [(0, .ref 76), (1, .ref 3), (2, .ref 64), (3, .int a3), (4, .ref k1), (5, .int 0)], [], (I2, L2))) h2 rfl ?_
  refine xe_go 0 (s' := (37, [(0, .ref 76), (1, .ref 3), (2, .ref 64), (3, .int a3), (4, .ref k1), (5, .int 0)], [.ref k1], (I2, L2))) rfl ?_
  refine xe_vir (n := 1) (f := fx_X2_isPlain) rfl (Nat.le_of_ble_eq_true rfl) (List.mem_of_getElem? (i := 2) rfl) (Nat.le_of_ble_eq_true rfl) c3 ?_
  refine xe_go 1 (s' := (45, [(0, .ref 76), (1, .ref 3), (2, .ref 64), (3, .int a3), (4, .ref k1), (5, .int 0)], [.ref k1], (I3, L3))) rfl ?_
  refine xe_vir (n := 1) (f := fx_X2_isMeasure) rfl (Nat.le_of_ble_eq_true rfl) (List.mem_of_getElem? (i := 3) rfl) (Nat.le_of_ble_eq_true rfl) c4 ?_
  refine xe_bF 4 (A := (72, [(0, .ref 76), (1, .ref 3), (2, .ref 64), (3, .int a3), (4, .ref k1), (5, .int 0)], [], (I4, L4))) (B := (66, [(0, .ref 76), (1, .ref 3), (2, .ref 64), (3, .int a3), (4, .ref k1), (5, .int 0)], [], (I4, L4))) h3 rfl ?_
  refine xe_bT 2 (A := (78, [(0, .ref 76), (1, .ref 3), (2, .ref 64), (3, .int a3), (4, .ref k1), (5, .int 0)], [], (I4, L4))) (B := (72, [(0, .ref 76), (1, .ref 3), (2, .ref 64), (3, .int a3), (4, .ref k1), (5, .int 0)], [], (I4, L4))) h4 rfl ?_
  refine xe_go 6 (s' := (89, [(0, .ref 76), (1, .ref 3), (2, .ref 64), (3, .int a3), (4, .ref k1), (5, .int 0)], [.ref 3], ((xu I4 76 5 ((I4 76 5) + (1 : Int32))), L4))) rfl ?_
  refine xe_vir (n := 1) (f := fx_X7_step) rfl (Nat.le_of_ble_eq_true rfl) (List.mem_of_getElem? (i := 5) rfl) (Nat.le_of_ble_eq_true rfl) c5 ?_
  refine xe_bF 4 (A := (132, [(0, .ref 76), (1, .ref 3), (2, .ref 64), (3, .int a3), (4, .ref k1), (5, .int 0)], [], (I5, L5))) (B := (155, [(0, .ref 76), (1, .ref 3), (2, .ref 64), (3, .int a3), (4, .ref k1), (5, .int 0)], [], (I5, L5))) h5 rfl ?_
  refine xe_go 3 (s' := (160, [(0, .ref 76), (1, .ref 3), (2, .ref 64), (3, .int a3), (4, .ref k1), (5, .int 0)], [.ref k1, .ref 64, .ref 3, .ref 76], (I5, L5))) rfl ?_
  refine xe_vir (n := 4) (f := fx_X8_readSimple) rfl (Nat.le_of_ble_eq_true rfl) (List.mem_of_getElem? (i := 10) rfl) (Nat.le_of_ble_eq_true rfl) c6 ?_
  exact xe_end rfl rfl rfl
set_option maxRecDepth 100000 in
theorem pt_X8_readOne_27 {fC : xe_F} {fO : xe_F} {a3 : Int32} {I I1 I2 I3 I4 I5 I6 : Nat → Nat → Int32} {L L1 L2 L3 L4 L5 L6 : Nat → Nat → Int64} {k1 : Nat} (c1 : fx_X7_key [.ref 3] (I, L) (some (.ref k1)) (I1, L1)) (c2 : fx_X7_isSign [.int (40 : Int32), .ref 3] (I1, L1) (some (.int 0)) (I2, L2)) (h1 : (Nat.beq k1 215) = false) (h2 : (Nat.beq k1 219) = false) (c3 : fx_X2_isPlain [.ref k1] (I2, L2) (some (.int 0)) (I3, L3)) (c4 : fx_X2_isMeasure [.ref k1] (I3, L3) (some (.int 1)) (I4, L4)) (h3 : (xe_cmp .ge (I4 76 5) (20 : Int32)) = false) (h4 : (xe_cmp .le a3 (8 : Int32)) = true) (c5 : fx_X7_step [.ref 3] ((xu I4 76 5 ((I4 76 5) + (1 : Int32))), L4) none (I5, L5)) (h5 : (Nat.beq k1 215) = false) (c6 : fx_X8_readSimple [.ref k1, .ref 64, .ref 3, .ref 76] (I5, L5) (some (.int 0)) (I6, L6)) : ∃ n, xr_X8_readOne fC fO n (0, [(0, .ref 76), (1, .ref 3), (2, .ref 64), (3, .int a3)], [], (I, L)) (some (.int 0)) (I6, L6) := by
  refine xe_go 0 (s' := (1, [(0, .ref 76), (1, .ref 3), (2, .ref 64), (3, .int a3)], [.ref 3], (I, L))) rfl ?_
  refine xe_vir (n := 1) (f := fx_X7_key) rfl (Nat.le_of_ble_eq_true rfl) (List.mem_of_getElem? (i := 0) rfl) (Nat.le_of_ble_eq_true rfl) c1 ?_
  refine xe_go 2 (s' := (9, [(0, .ref 76), (1, .ref 3), (2, .ref 64), (3, .int a3), (4, .ref k1)], [.int (40 : Int32), .ref 3], (I1, L1))) rfl ?_
  refine xe_vir (n := 2) (f := fx_X7_isSign) rfl (Nat.le_of_ble_eq_true rfl) (List.mem_of_getElem? (i := 1) rfl) (Nat.le_of_ble_eq_true rfl) c2 ?_
  refine xe_bF 5 (A := (57, [(0, .ref 76), (1, .ref 3), (2, .ref 64), (3, .int a3), (4, .ref k1), (5, .int 0)], [], (I2, L2))) (B := (27, [(0, .ref 76), (1, .ref 3), (2, .ref 64), (3, .int a3), (4, .ref k1), (5, .int 0)], [], (I2, L2))) h1 rfl ?_
  refine xe_bF 2 (A := (57, [(0, .ref 76), (1, .ref 3), (2, .ref 64), (3, .int a3), (4, .ref k1), (5, .int 0)], [], (I2, L2))) (B := (35, [(0, .ref 76), (1, .ref 3), (2, .ref 64), (3, .int a3), (4, .ref k1), (5, .int 0)], [], (I2, L2))) h2 rfl ?_
  refine xe_go 0 (s' := (37, [(0, .ref 76), (1, .ref 3), (2, .ref 64), (3, .int a3), (4, .ref k1), (5, .int 0)], [.ref k1], (I2, L2))) rfl ?_
  refine xe_vir (n := 1) (f := fx_X2_isPlain) rfl (Nat.le_of_ble_eq_true rfl) (List.mem_of_getElem? (i := 2) rfl) (Nat.le_of_ble_eq_true rfl) c3 ?_
  refine xe_go 1 (s' := (45, [(0, .ref 76), (1, .ref 3), (2, .ref 64), (3, .int a3), (4, .ref k1), (5, .int 0)], [.ref k1], (I3, L3))) rfl ?_
  refine xe_vir (n := 1) (f := fx_X2_isMeasure) rfl (Nat.le_of_ble_eq_true rfl) (List.mem_of_getElem? (i := 3) rfl) (Nat.le_of_ble_eq_true rfl) c4 ?_
  refine xe_bF 4 (A := (72, [(0, .ref 76), (1, .ref 3), (2, .ref 64), (3, .int a3), (4, .ref k1), (5, .int 0)], [], (I4, L4))) (B := (66, [(0, .ref 76), (1, .ref 3), (2, .ref 64), (3, .int a3), (4, .ref k1), (5, .int 0)], [], (I4, L4))) h3 rfl ?_
  refine xe_bT 2 (A := (78, [(0, .ref 76), (1, .ref 3), (2, .ref 64), (3, .int a3), (4, .ref k1), (5, .int 0)], [], (I4, L4))) (B := (72, [(0, .ref 76), (1, .ref 3), (2, .ref 64), (3, .int a3), (4, .ref k1), (5, .int 0)], [], (I4, L4))) h4 rfl ?_
  refine xe_go 6 (s' := (89, [(0, .ref 76), (1, .ref 3), (2, .ref 64), (3, .int a3), (4, .ref k1), (5, .int 0)], [.ref 3], ((xu I4 76 5 ((I4 76 5) + (1 : Int32))), L4))) rfl ?_
  refine xe_vir (n := 1) (f := fx_X7_step) rfl (Nat.le_of_ble_eq_true rfl) (List.mem_of_getElem? (i := 5) rfl) (Nat.le_of_ble_eq_true rfl) c5 ?_
  refine xe_bF 4 (A := (132, [(0, .ref 76), (1, .ref 3), (2, .ref 64), (3, .int a3), (4, .ref k1), (5, .int 0)], [], (I5, L5))) (B := (155, [(0, .ref 76), (1, .ref 3), (2, .ref 64), (3, .int a3), (4, .ref k1), (5, .int 0)], [], (I5, L5))) h5 rfl ?_
  refine xe_go 3 (s' := (160, [(0, .ref 76), (1, .ref 3), (2, .ref 64), (3, .int a3), (4, .ref k1), (5, .int 0)], [.ref k1, .ref 64, .ref 3, .ref 76], (I5, L5))) rfl ?_
  refine xe_vir (n := 4) (f := fx_X8_readSimple) rfl (Nat.le_of_ble_eq_true rfl) (List.mem_of_getElem? (i := 10) rfl) (Nat.le_of_ble_eq_true rfl) c6 ?_
  exact xe_end rfl rfl rfl
set_option maxRecDepth 100000 in
theorem pt_X8_readOne_28 {fC : xe_F} {fO : xe_F} {a3 : Int32} {I I1 I2 I3 I4 I5 : Nat → Nat → Int32} {L L1 L2 L3 L4 L5 : Nat → Nat → Int64} {k1 : Nat} (c1 : fx_X7_key [.ref 3] (I, L) (some (.ref k1)) (I1, L1)) (c2 : fx_X7_isSign [.int (40 : Int32), .ref 3] (I1, L1) (some (.int 0)) (I2, L2)) (h1 : (Nat.beq k1 215) = false) (h2 : (Nat.beq k1 219) = false) (c3 : fx_X2_isPlain [.ref k1] (I2, L2) (some (.int 0)) (I3, L3)) (c4 : fx_X2_isMeasure [.ref k1] (I3, L3) (some (.int 1)) (I4, L4)) (h3 : (xe_cmp .ge (I4 76 5) (20 : Int32)) = false) (h4 : (xe_cmp .le a3 (8 : Int32)) = false) (c5 : fx_X7_fail [.int (4 : Int32), .ref 3] (I4, L4) (some (.int 0)) (I5, L5)) : ∃ n, xr_X8_readOne fC fO n (0, [(0, .ref 76), (1, .ref 3), (2, .ref 64), (3, .int a3)], [], (I, L)) (some (.int 0)) (I5, L5) := by
  refine xe_go 0 (s' := (1, [(0, .ref 76), (1, .ref 3), (2, .ref 64), (3, .int a3)], [.ref 3], (I, L))) rfl ?_
  refine xe_vir (n := 1) (f := fx_X7_key) rfl (Nat.le_of_ble_eq_true rfl) (List.mem_of_getElem? (i := 0) rfl) (Nat.le_of_ble_eq_true rfl) c1 ?_
  refine xe_go 2 (s' := (9, [(0, .ref 76), (1, .ref 3), (2, .ref 64), (3, .int a3), (4, .ref k1)], [.int (40 : Int32), .ref 3], (I1, L1))) rfl ?_
  refine xe_vir (n := 2) (f := fx_X7_isSign) rfl (Nat.le_of_ble_eq_true rfl) (List.mem_of_getElem? (i := 1) rfl) (Nat.le_of_ble_eq_true rfl) c2 ?_
  refine xe_bF 5 (A := (57, [(0, .ref 76), (1, .ref 3), (2, .ref 64), (3, .int a3), (4, .ref k1), (5, .int 0)], [], (I2, L2))) (B := (27, [(0, .ref 76), (1, .ref 3), (2, .ref 64), (3, .int a3), (4, .ref k1), (5, .int 0)], [], (I2, L2))) h1 rfl ?_
  refine xe_bF 2 (A := (57, [(0, .ref 76), (1, .ref 3), (2, .ref 64), (3, .int a3), (4, .ref k1), (5, .int 0)], [], (I2, L2))) (B := (35, [(0, .ref 76), (1, .ref 3), (2, .ref 64), (3, .int a3), (4, .ref k1), (5, .int 0)], [], (I2, L2))) h2 rfl ?_
  refine xe_go 0 (s' := (37, [(0, .ref 76), (1, .ref 3), (2, .ref 64), (3, .int a3), (4, .ref k1), (5, .int 0)], [.ref k1], (I2, L2))) rfl ?_
  refine xe_vir (n := 1) (f := fx_X2_isPlain) rfl (Nat.le_of_ble_eq_true rfl) (List.mem_of_getElem? (i := 2) rfl) (Nat.le_of_ble_eq_true rfl) c3 ?_
  refine xe_go 1 (s' := (45, [(0, .ref 76), (1, .ref 3), (2, .ref 64), (3, .int a3), (4, .ref k1), (5, .int 0)], [.ref k1], (I3, L3))) rfl ?_
  refine xe_vir (n := 1) (f := fx_X2_isMeasure) rfl (Nat.le_of_ble_eq_true rfl) (List.mem_of_getElem? (i := 3) rfl) (Nat.le_of_ble_eq_true rfl) c4 ?_
  refine xe_bF 4 (A := (72, [(0, .ref 76), (1, .ref 3), (2, .ref 64), (3, .int a3), (4, .ref k1), (5, .int 0)], [], (I4, L4))) (B := (66, [(0, .ref 76), (1, .ref 3), (2, .ref 64), (3, .int a3), (4, .ref k1), (5, .int 0)], [], (I4, L4))) h3 rfl ?_
  refine xe_bF 2 (A := (78, [(0, .ref 76), (1, .ref 3), (2, .ref 64), (3, .int a3), (4, .ref k1), (5, .int 0)], [], (I4, L4))) (B := (72, [(0, .ref 76), (1, .ref 3), (2, .ref 64), (3, .int a3), (4, .ref k1), (5, .int 0)], [], (I4, L4))) h4 rfl ?_
  refine xe_go 1 (s' := (74, [(0, .ref 76), (1, .ref 3), (2, .ref 64), (3, .int a3), (4, .ref k1), (5, .int 0)], [.int (4 : Int32), .ref 3], (I4, L4))) rfl ?_
  refine xe_vir (n := 2) (f := fx_X7_fail) rfl (Nat.le_of_ble_eq_true rfl) (List.mem_of_getElem? (i := 4) rfl) (Nat.le_of_ble_eq_true rfl) c5 ?_
  exact xe_end rfl rfl rfl
set_option maxRecDepth 100000 in
theorem pt_X8_readOne_29 {fC : xe_F} {fO : xe_F} {a3 : Int32} {I I1 I2 I3 I4 I5 : Nat → Nat → Int32} {L L1 L2 L3 L4 L5 : Nat → Nat → Int64} {k1 : Nat} (c1 : fx_X7_key [.ref 3] (I, L) (some (.ref k1)) (I1, L1)) (c2 : fx_X7_isSign [.int (40 : Int32), .ref 3] (I1, L1) (some (.int 0)) (I2, L2)) (h1 : (Nat.beq k1 215) = false) (h2 : (Nat.beq k1 219) = false) (c3 : fx_X2_isPlain [.ref k1] (I2, L2) (some (.int 0)) (I3, L3)) (c4 : fx_X2_isMeasure [.ref k1] (I3, L3) (some (.int 0)) (I4, L4)) (c5 : fx_X7_fail [.int (1 : Int32), .ref 3] (I4, L4) (some (.int 0)) (I5, L5)) : ∃ n, xr_X8_readOne fC fO n (0, [(0, .ref 76), (1, .ref 3), (2, .ref 64), (3, .int a3)], [], (I, L)) (some (.int 0)) (I5, L5) := by
  refine xe_go 0 (s' := (1, [(0, .ref 76), (1, .ref 3), (2, .ref 64), (3, .int a3)], [.ref 3], (I, L))) rfl ?_
  refine xe_vir (n := 1) (f := fx_X7_key) rfl (Nat.le_of_ble_eq_true rfl) (List.mem_of_getElem? (i := 0) rfl) (Nat.le_of_ble_eq_true rfl) c1 ?_
  refine xe_go 2 (s' := (9, [(0, .ref 76), (1, .ref 3), (2, .ref 64), (3, .int a3), (4, .ref k1)], [.int (40 : Int32), .ref 3], (I1, L1))) rfl ?_
  refine xe_vir (n := 2) (f := fx_X7_isSign) rfl (Nat.le_of_ble_eq_true rfl) (List.mem_of_getElem? (i := 1) rfl) (Nat.le_of_ble_eq_true rfl) c2 ?_
  refine xe_bF 5 (A := (57, [(0, .ref 76), (1, .ref 3), (2, .ref 64), (3, .int a3), (4, .ref k1), (5, .int 0)], [], (I2, L2))) (B := (27, [(0, .ref 76), (1, .ref 3), (2, .ref 64), (3, .int a3), (4, .ref k1), (5, .int 0)], [], (I2, L2))) h1 rfl ?_
  refine xe_bF 2 (A := (57, [(0, .ref 76), (1, .ref 3), (2, .ref 64), (3, .int a3), (4, .ref k1), (5, .int 0)], [], (I2, L2))) (B := (35, [(0, .ref 76), (1, .ref 3), (2, .ref 64), (3, .int a3), (4, .ref k1), (5, .int 0)], [], (I2, L2))) h2 rfl ?_
  refine xe_go 0 (s' := (37, [(0, .ref 76), (1, .ref 3), (2, .ref 64), (3, .int a3), (4, .ref k1), (5, .int 0)], [.ref k1], (I2, L2))) rfl ?_
  refine xe_vir (n := 1) (f := fx_X2_isPlain) rfl (Nat.le_of_ble_eq_true rfl) (List.mem_of_getElem? (i := 2) rfl) (Nat.le_of_ble_eq_true rfl) c3 ?_
  refine xe_go 1 (s' := (45, [(0, .ref 76), (1, .ref 3), (2, .ref 64), (3, .int a3), (4, .ref k1), (5, .int 0)], [.ref k1], (I3, L3))) rfl ?_
  refine xe_vir (n := 1) (f := fx_X2_isMeasure) rfl (Nat.le_of_ble_eq_true rfl) (List.mem_of_getElem? (i := 3) rfl) (Nat.le_of_ble_eq_true rfl) c4 ?_
  refine xe_go 2 (s' := (53, [(0, .ref 76), (1, .ref 3), (2, .ref 64), (3, .int a3), (4, .ref k1), (5, .int 0)], [.int (1 : Int32), .ref 3], (I4, L4))) rfl ?_
  refine xe_vir (n := 2) (f := fx_X7_fail) rfl (Nat.le_of_ble_eq_true rfl) (List.mem_of_getElem? (i := 4) rfl) (Nat.le_of_ble_eq_true rfl) c5 ?_
  exact xe_end rfl rfl rfl
def xi_X8_readAll : List (Nat × Nat × Instr) := [(0, 1, .aload_n 0), (1, 1, .aload_n 1), (2, 1, .aload_n 2), (3, 1, .iload_n 3), (4, 3, .invokevirtual 73), (7, 3, .ifCond .ne 5), (10, 1, .iconst 0), (11, 1, .ireturn), (12, 1, .iconst 0), (13, 2, .istore 4), (15, 2, .iload 4), (17, 2, .bipush 20), (19, 3, .if_icmp .ge 44), (22, 1, .aload_n 1), (23, 3, .invokevirtual 59), (26, 3, .getstatic 76), (29, 3, .if_acmp .ne 34), (32, 1, .aload_n 1), (33, 3, .invokevirtual 66), (36, 1, .aload_n 0), (37, 1, .aload_n 1), (38, 1, .aload_n 2), (39, 1, .iload_n 3), (40, 3, .invokevirtual 73), (43, 3, .ifCond .ne 5), (46, 1, .iconst 0), (47, 1, .ireturn), (48, 1, .aload_n 0), (49, 3, .getstatic 76), (52, 1, .iconst 0), (53, 1, .iconst 0), (54, 3, .invokevirtual 69), (57, 3, .iinc 4 1), (60, 3, .goto (-45)), (63, 1, .iconst 1), (64, 1, .ireturn)]
def xg_X8_readAll : zf_ft := []
def xp_X8_readAll : zf_ft := []
def xv_X8_readAll (fO : xe_F) : List (Nat × Nat × xe_F) := [(73, 4, fO), (59, 1, fx_X7_key), (66, 1, fx_X7_step), (69, 4, fx_X8_add)]
def xt_X8_readAll : List (Nat × Nat × xe_F) := []
abbrev xr_X8_readAll (fO : xe_F) := xe_run xGT xSC xRF 5 xg_X8_readAll xp_X8_readAll [(76, 214)] [] (xv_X8_readAll fO) xt_X8_readAll xi_X8_readAll
def fx_X8_readAll (fO : xe_F) : xe_F := fun us hp v hp' => (us.map fun v => v.category).sum ≤ 5 ∧ xe_rt (some .boolean) v ∧ (∃ ar, us = ar ++ [.ref 76]) ∧ ∃ n, xr_X8_readAll fO n (0, xe_ag 0 us.reverse, [], hp) v hp'
theorem mk_X8_readAll {fO : xe_F} {a3 : Int32} {hp hp' : xe_H} {v : Option Value} (hr : xe_rt (some .boolean) v) (h : ∃ n, xr_X8_readAll fO n (0, [(0, .ref 76), (1, .ref 3), (2, .ref 64), (3, .int a3)], [], hp) v hp') : fx_X8_readAll fO [.int a3, .ref 64, .ref 3, .ref 76] hp v hp' := ⟨Nat.le_of_ble_eq_true rfl, hr, ⟨[.int a3, .ref 64, .ref 3], rfl⟩, h⟩
theorem hx_X8_readAll {fO : xe_F} : ∀ us hp v hp', fx_X8_readAll fO us hp v hp' → (us.map fun v => v.category).sum ≤ 5 ∧ xe_rt (some .boolean) v ∧ ∃ n, xr_X8_readAll fO n (0, xe_ag 0 us.reverse, [], hp) v hp' := fun us hp v hp' h => ⟨h.1, h.2.1, h.2.2.2⟩
theorem fr_X8_readAll {fO : xe_F} : ∀ us hp v hp', fx_X8_readAll fO us hp v hp' → ∃ ar, us = ar ++ [.ref 76] := fun us hp v hp' h => h.2.2.1
set_option maxRecDepth 100000 in
set_option maxHeartbeats 4000000 in
theorem kx_X8_readAll (l : Launch) (D : va_G) (k : Nat → ClassId) (B0 : Nat) (ad : Nat → Nat) (al sw : Nat) (F9 L9 : Nat) (hF : 8 ≤ F9) (hL : 200 ≤ L9) {fO : xe_F} (rfO : ∀ us hp v hp', fO us hp v hp' → ∃ ar, us = ar ++ [.ref 76]) (kfO : xe_Con l yX8_readOne (zw yX8_readOne cX8_readOne 7 (some .boolean)) ({ frames := F9, cells := 0, slots := 0, locals := L9 }) D k ad (zEx B0 ad al sw) xGT xSC xRF fO) : xe_Con l yX8_readAll (zw yX8_readAll cX8_readAll 5 (some .boolean)) ({ frames := F9 + 1, cells := 0, slots := 0, locals := L9 + 30 }) D k ad (zEx B0 ad al sw) xGT xSC xRF (fx_X8_readAll fO) := by
  have hEx := zEx_ok B0 ad al sw
  refine xe_mk (cc := cX8_readAll) (nL := 5) (ret := (some .boolean)) (fg := xg_X8_readAll) (fp := xp_X8_readAll) (sg := [(76, 214)]) (lc := []) (cv := xv_X8_readAll fO) (cs := xt_X8_readAll) (ins := xi_X8_readAll) (by decide) rfl hEx (by decide +kernel) hx_X8_readAll ?_
  intro p e s m args below meth c Q Sg w0 A θ S hK hE hAB hA hth
  refine ⟨?_, ?_, ?_, ?_, ?_, ?_⟩
  · exact zf_an
  · exact zf_an
  · exact xe_a2 ((fun H locs rest pc ls hS hdg kk => va_gets (C := RX2) (n := "AND") (d := zkD) (v := .ref (θ 214)) S.1 S.2.1 (by rw [(hth.2 14 (by decide)).1]; exact (hE.2.2.2.1.1 14 (by decide)).1.narrow hAB) hS S.2.2.2.1 (S.2.2.2.2 (.fieldLink RX8 76 "RungMoney$Key" "AND" "LRungMoney$Key;") (List.mem_cons_of_mem _ zw_1165)) (fun _ h9 => h9) hdg (kk (by show Sg (θ 214) = some 128; rw [(hth.2 14 (by decide)).1]; exact (hth.2 14 (by decide)).2)))) xe_n2
  · exact xe_n3
  · exact xe_a4 (xe_crV S hEx hE hAB hA hK hth kfO (cwV 3 S.2.2.2.2 (zg_V zw_1116 zw_1118 zw_18 zw_102 zw_1119) rfl rfl rfl (by decide +kernel) ⟨(by show F9 + 1 ≤ F9 + 1; omega), (by show 8 + (7 + 11) + L9 ≤ L9 + 30; omega)⟩) ⟨(Nat.le_of_ble_eq_true rfl), (Nat.le_of_ble_eq_true rfl)⟩ 6 rfl rfl 76 (by decide +kernel) rfO) (xe_a4 (xe_crV S hEx hE hAB hA hK hth (kx_X7_key l D k B0 ad al sw) (cwV 0 S.2.2.2.2 (zg_V zw_1120 zw_510 zw_511 zw_97 zw_512) rfl rfl rfl (by decide +kernel) ⟨(by show 1 + 1 ≤ F9 + 1; omega), (by show 8 + (1 + 11) + 22 ≤ L9 + 30; omega)⟩) ⟨(Nat.le_of_ble_eq_true rfl), (Nat.le_of_ble_eq_true rfl)⟩ 5 rfl rfl 3 (by decide +kernel) fr_X7_key) (xe_a4 (xe_crV S hEx hE hAB hA hK hth (kx_X7_step l D k B0 ad al sw) (cwV 0 S.2.2.2.2 (zg_V zw_1149 zw_494 zw_495 zw_97 zw_496) rfl rfl rfl (by decide +kernel) ⟨(by show 1 + 1 ≤ F9 + 1; omega), (by show 8 + (1 + 11) + 24 ≤ L9 + 30; omega)⟩) ⟨(Nat.le_of_ble_eq_true rfl), (Nat.le_of_ble_eq_true rfl)⟩ 5 rfl rfl 3 (by decide +kernel) fr_X7_step) (xe_a4 (xe_crV S hEx hE hAB hA hK hth (kx_X8_add l D k B0 ad al sw) (cwV 3 S.2.2.2.2 (zg_V zw_1151 zw_1153 zw_19 zw_102 zw_1154) rfl rfl rfl (by decide +kernel) ⟨(by show 0 + 1 ≤ F9 + 1; omega), (by show 8 + (4 + 11) + 0 ≤ L9 + 30; omega)⟩) ⟨(Nat.le_of_ble_eq_true rfl), (Nat.le_of_ble_eq_true rfl)⟩ 6 rfl rfl 76 (by decide +kernel) fr_X8_add) xe_n4)))
  · exact xe_n4
set_option maxRecDepth 100000 in
theorem pt_X8_readAll_0 {fO : xe_F} {a3 : Int32} {I I1 : Nat → Nat → Int32} {L L1 : Nat → Nat → Int64} (c1 : fO [.int a3, .ref 64, .ref 3, .ref 76] (I, L) (some (.int 1)) (I1, L1)) {v9 : Option Value} {hp9 : xe_H} (r9 : ∃ n, xr_X8_readAll fO n (15, [(0, .ref 76), (1, .ref 3), (2, .ref 64), (3, .int a3), (4, .int (0 : Int32))], [], (I1, L1)) v9 hp9) : ∃ n, xr_X8_readAll fO n (0, [(0, .ref 76), (1, .ref 3), (2, .ref 64), (3, .int a3)], [], (I, L)) v9 hp9 := by
  refine xe_go 3 (s' := (4, [(0, .ref 76), (1, .ref 3), (2, .ref 64), (3, .int a3)], [.int a3, .ref 64, .ref 3, .ref 76], (I, L))) rfl ?_
  refine xe_vir (n := 4) (f := fO) rfl (Nat.le_of_ble_eq_true rfl) (List.mem_of_getElem? (i := 0) rfl) (Nat.le_of_ble_eq_true rfl) c1 ?_
  refine xe_go 2 (s' := (15, [(0, .ref 76), (1, .ref 3), (2, .ref 64), (3, .int a3), (4, .int (0 : Int32))], [], (I1, L1))) rfl ?_
  exact xe_nrm [0, 1, 2, 3, 4] rfl r9
set_option maxRecDepth 100000 in
theorem pt_X8_readAll_1 {fO : xe_F} {a3 : Int32} {I I1 : Nat → Nat → Int32} {L L1 : Nat → Nat → Int64} (c1 : fO [.int a3, .ref 64, .ref 3, .ref 76] (I, L) (some (.int 0)) (I1, L1)) : ∃ n, xr_X8_readAll fO n (0, [(0, .ref 76), (1, .ref 3), (2, .ref 64), (3, .int a3)], [], (I, L)) (some (.int (0 : Int32))) (I1, L1) := by
  refine xe_go 3 (s' := (4, [(0, .ref 76), (1, .ref 3), (2, .ref 64), (3, .int a3)], [.int a3, .ref 64, .ref 3, .ref 76], (I, L))) rfl ?_
  refine xe_vir (n := 4) (f := fO) rfl (Nat.le_of_ble_eq_true rfl) (List.mem_of_getElem? (i := 0) rfl) (Nat.le_of_ble_eq_true rfl) c1 ?_
  refine xe_go 1 (s' := (11, [(0, .ref 76), (1, .ref 3), (2, .ref 64), (3, .int a3)], [.int (0 : Int32)], (I1, L1))) rfl ?_
  exact xe_end rfl rfl rfl
set_option maxRecDepth 100000 in
theorem pt_X8_readAll_2 {fO : xe_F} {l3 l4 : Int32} {I : Nat → Nat → Int32} {L : Nat → Nat → Int64} (h1 : (xe_cmp .ge l4 (20 : Int32)) = true) : ∃ n, xr_X8_readAll fO n (15, [(0, .ref 76), (1, .ref 3), (2, .ref 64), (3, .int l3), (4, .int l4)], [], (I, L)) (some (.int (1 : Int32))) (I, L) := by
  refine xe_bT 2 (A := (63, [(0, .ref 76), (1, .ref 3), (2, .ref 64), (3, .int l3), (4, .int l4)], [], (I, L))) (B := (22, [(0, .ref 76), (1, .ref 3), (2, .ref 64), (3, .int l3), (4, .int l4)], [], (I, L))) h1 rfl ?_
  refine xe_go 0 (s' := (64, [(0, .ref 76), (1, .ref 3), (2, .ref 64), (3, .int l3), (4, .int l4)], [.int (1 : Int32)], (I, L))) rfl ?_
  exact xe_end rfl rfl rfl
set_option maxRecDepth 100000 in
theorem pt_X8_readAll_3 {fO : xe_F} {l3 l4 : Int32} {I I1 I2 I3 I4 : Nat → Nat → Int32} {L L1 L2 L3 L4 : Nat → Nat → Int64} {k1 : Nat} (h1 : (xe_cmp .ge l4 (20 : Int32)) = false) (c1 : fx_X7_key [.ref 3] (I, L) (some (.ref k1)) (I1, L1)) (h2 : (Nat.beq k1 214) = true) (c2 : fx_X7_step [.ref 3] (I1, L1) none (I2, L2)) (c3 : fO [.int l3, .ref 64, .ref 3, .ref 76] (I2, L2) (some (.int 1)) (I3, L3)) (c4 : fx_X8_add [.int (0 : Int32), .int (0 : Int32), .ref 214, .ref 76] (I3, L3) none (I4, L4)) {v9 : Option Value} {hp9 : xe_H} (r9 : ∃ n, xr_X8_readAll fO n (15, [(0, .ref 76), (1, .ref 3), (2, .ref 64), (3, .int l3), (4, .int (l4 + (1 : Int32)))], [], (I4, L4)) v9 hp9) : ∃ n, xr_X8_readAll fO n (15, [(0, .ref 76), (1, .ref 3), (2, .ref 64), (3, .int l3), (4, .int l4)], [], (I, L)) v9 hp9 := by
  refine xe_bF 2 (A := (63, [(0, .ref 76), (1, .ref 3), (2, .ref 64), (3, .int l3), (4, .int l4)], [], (I, L))) (B := (22, [(0, .ref 76), (1, .ref 3), (2, .ref 64), (3, .int l3), (4, .int l4)], [], (I, L))) h1 rfl ?_
  refine xe_go 0 (s' := (23, [(0, .ref 76), (1, .ref 3), (2, .ref 64), (3, .int l3), (4, .int l4)], [.ref 3], (I, L))) rfl ?_
  refine xe_vir (n := 1) (f := fx_X7_key) rfl (Nat.le_of_ble_eq_true rfl) (List.mem_of_getElem? (i := 1) rfl) (Nat.le_of_ble_eq_true rfl) c1 ?_
  refine xe_bT 1 (A := (32, [(0, .ref 76), (1, .ref 3), (2, .ref 64), (3, .int l3), (4, .int l4)], [], (I1, L1))) (B := (63, [(0, .ref 76), (1, .ref 3), (2, .ref 64), (3, .int l3), (4, .int l4)], [], (I1, L1))) h2 rfl ?_
  refine xe_go 0 (s' := (33, [(0, .ref 76), (1, .ref 3), (2, .ref 64), (3, .int l3), (4, .int l4)], [.ref 3], (I1, L1))) rfl ?_
  refine xe_vir (n := 1) (f := fx_X7_step) rfl (Nat.le_of_ble_eq_true rfl) (List.mem_of_getElem? (i := 2) rfl) (Nat.le_of_ble_eq_true rfl) c2 ?_
  refine xe_go 3 (s' := (40, [(0, .ref 76), (1, .ref 3), (2, .ref 64), (3, .int l3), (4, .int l4)], [.int l3, .ref 64, .ref 3, .ref 76], (I2, L2))) rfl ?_
  refine xe_vir (n := 4) (f := fO) rfl (Nat.le_of_ble_eq_true rfl) (List.mem_of_getElem? (i := 0) rfl) (Nat.le_of_ble_eq_true rfl) c3 ?_
  refine xe_go 4 (s' := (54, [(0, .ref 76), (1, .ref 3), (2, .ref 64), (3, .int l3), (4, .int l4)], [.int (0 : Int32), .int (0 : Int32), .ref 214, .ref 76], (I3, L3))) rfl ?_
  refine xe_vir (n := 4) (f := fx_X8_add) rfl (Nat.le_of_ble_eq_true rfl) (List.mem_of_getElem? (i := 3) rfl) (Nat.le_of_ble_eq_true rfl) c4 ?_
  refine xe_go 1 (s' := (15, [(0, .ref 76), (1, .ref 3), (2, .ref 64), (3, .int l3), (4, .int (l4 + (1 : Int32)))], [], (I4, L4))) rfl ?_
  exact xe_nrm [0, 1, 2, 3, 4] rfl r9
set_option maxRecDepth 100000 in
theorem pt_X8_readAll_4 {fO : xe_F} {l3 l4 : Int32} {I I1 I2 I3 : Nat → Nat → Int32} {L L1 L2 L3 : Nat → Nat → Int64} {k1 : Nat} (h1 : (xe_cmp .ge l4 (20 : Int32)) = false) (c1 : fx_X7_key [.ref 3] (I, L) (some (.ref k1)) (I1, L1)) (h2 : (Nat.beq k1 214) = true) (c2 : fx_X7_step [.ref 3] (I1, L1) none (I2, L2)) (c3 : fO [.int l3, .ref 64, .ref 3, .ref 76] (I2, L2) (some (.int 0)) (I3, L3)) : ∃ n, xr_X8_readAll fO n (15, [(0, .ref 76), (1, .ref 3), (2, .ref 64), (3, .int l3), (4, .int l4)], [], (I, L)) (some (.int (0 : Int32))) (I3, L3) := by
  refine xe_bF 2 (A := (63, [(0, .ref 76), (1, .ref 3), (2, .ref 64), (3, .int l3), (4, .int l4)], [], (I, L))) (B := (22, [(0, .ref 76), (1, .ref 3), (2, .ref 64), (3, .int l3), (4, .int l4)], [], (I, L))) h1 rfl ?_
  refine xe_go 0 (s' := (23, [(0, .ref 76), (1, .ref 3), (2, .ref 64), (3, .int l3), (4, .int l4)], [.ref 3], (I, L))) rfl ?_
  refine xe_vir (n := 1) (f := fx_X7_key) rfl (Nat.le_of_ble_eq_true rfl) (List.mem_of_getElem? (i := 1) rfl) (Nat.le_of_ble_eq_true rfl) c1 ?_
  refine xe_bT 1 (A := (32, [(0, .ref 76), (1, .ref 3), (2, .ref 64), (3, .int l3), (4, .int l4)], [], (I1, L1))) (B := (63, [(0, .ref 76), (1, .ref 3), (2, .ref 64), (3, .int l3), (4, .int l4)], [], (I1, L1))) h2 rfl ?_
  refine xe_go 0 (s' := (33, [(0, .ref 76), (1, .ref 3), (2, .ref 64), (3, .int l3), (4, .int l4)], [.ref 3], (I1, L1))) rfl ?_
  refine xe_vir (n := 1) (f := fx_X7_step) rfl (Nat.le_of_ble_eq_true rfl) (List.mem_of_getElem? (i := 2) rfl) (Nat.le_of_ble_eq_true rfl) c2 ?_
  refine xe_go 3 (s' := (40, [(0, .ref 76), (1, .ref 3), (2, .ref 64), (3, .int l3), (4, .int l4)], [.int l3, .ref 64, .ref 3, .ref 76], (I2, L2))) rfl ?_
  refine xe_vir (n := 4) (f := fO) rfl (Nat.le_of_ble_eq_true rfl) (List.mem_of_getElem? (i := 0) rfl) (Nat.le_of_ble_eq_true rfl) c3 ?_
  refine xe_go 1 (s' := (47, [(0, .ref 76), (1, .ref 3), (2, .ref 64), (3, .int l3), (4, .int l4)], [.int (0 : Int32)], (I3, L3))) rfl ?_
  exact xe_end rfl rfl rfl
set_option maxRecDepth 100000 in
theorem pt_X8_readAll_5 {fO : xe_F} {l3 l4 : Int32} {I I1 : Nat → Nat → Int32} {L L1 : Nat → Nat → Int64} {k1 : Nat} (h1 : (xe_cmp .ge l4 (20 : Int32)) = false) (c1 : fx_X7_key [.ref 3] (I, L) (some (.ref k1)) (I1, L1)) (h2 : (Nat.beq k1 214) = false) : ∃ n, xr_X8_readAll fO n (15, [(0, .ref 76), (1, .ref 3), (2, .ref 64), (3, .int l3), (4, .int l4)], [], (I, L)) (some (.int (1 : Int32))) (I1, L1) := by
  refine xe_bF 2 (A := (63, [(0, .ref 76), (1, .ref 3), (2, .ref 64), (3, .int l3), (4, .int l4)], [], (I, L))) (B := (22, [(0, .ref 76), (1, .ref 3), (2, .ref 64), (3, .int l3), (4, .int l4)], [], (I, L))) h1 rfl ?_
  refine xe_go 0 (s' := (23, [(0, .ref 76), (1, .ref 3), (2, .ref 64), (3, .int l3), (4, .int l4)], [.ref 3], (I, L))) rfl ?_
  refine xe_vir (n := 1) (f := fx_X7_key) rfl (Nat.le_of_ble_eq_true rfl) (List.mem_of_getElem? (i := 1) rfl) (Nat.le_of_ble_eq_true rfl) c1 ?_
  refine xe_bF 1 (A := (32, [(0, .ref 76), (1, .ref 3), (2, .ref 64), (3, .int l3), (4, .int l4)], [], (I1, L1))) (B := (63, [(0, .ref 76), (1, .ref 3), (2, .ref 64), (3, .int l3), (4, .int l4)], [], (I1, L1))) h2 rfl ?_
  refine xe_go 0 (s' := (64, [(0, .ref 76), (1, .ref 3), (2, .ref 64), (3, .int l3), (4, .int l4)], [.int (1 : Int32)], (I1, L1))) rfl ?_
  exact xe_end rfl rfl rfl
def xi_X8_readCond : List (Nat × Nat × Instr) := [(0, 1, .aload_n 0), (1, 1, .aload_n 1), (2, 1, .aload_n 2), (3, 1, .iload_n 3), (4, 3, .invokevirtual 56), (7, 3, .ifCond .ne 5), (10, 1, .iconst 0), (11, 1, .ireturn), (12, 1, .iconst 0), (13, 2, .istore 4), (15, 2, .iload 4), (17, 2, .bipush 20), (19, 3, .if_icmp .ge 44), (22, 1, .aload_n 1), (23, 3, .invokevirtual 59), (26, 3, .getstatic 63), (29, 3, .if_acmp .ne 34), (32, 1, .aload_n 1), (33, 3, .invokevirtual 66), (36, 1, .aload_n 0), (37, 1, .aload_n 1), (38, 1, .aload_n 2), (39, 1, .iload_n 3), (40, 3, .invokevirtual 56), (43, 3, .ifCond .ne 5), (46, 1, .iconst 0), (47, 1, .ireturn), (48, 1, .aload_n 0), (49, 3, .getstatic 63), (52, 1, .iconst 0), (53, 1, .iconst 0), (54, 3, .invokevirtual 69), (57, 3, .iinc 4 1), (60, 3, .goto (-45)), (63, 1, .iconst 1), (64, 1, .ireturn)]
def xg_X8_readCond : zf_ft := []
def xp_X8_readCond : zf_ft := []
def xv_X8_readCond (fA : xe_F) : List (Nat × Nat × xe_F) := [(56, 4, fA), (59, 1, fx_X7_key), (66, 1, fx_X7_step), (69, 4, fx_X8_add)]
def xt_X8_readCond : List (Nat × Nat × xe_F) := []
abbrev xr_X8_readCond (fA : xe_F) := xe_run xGT xSC xRF 5 xg_X8_readCond xp_X8_readCond [(63, 213)] [] (xv_X8_readCond fA) xt_X8_readCond xi_X8_readCond
def fx_X8_readCond (fA : xe_F) : xe_F := fun us hp v hp' => (us.map fun v => v.category).sum ≤ 5 ∧ xe_rt (some .boolean) v ∧ (∃ ar, us = ar ++ [.ref 76]) ∧ ∃ n, xr_X8_readCond fA n (0, xe_ag 0 us.reverse, [], hp) v hp'
theorem mk_X8_readCond {fA : xe_F} {a3 : Int32} {hp hp' : xe_H} {v : Option Value} (hr : xe_rt (some .boolean) v) (h : ∃ n, xr_X8_readCond fA n (0, [(0, .ref 76), (1, .ref 3), (2, .ref 64), (3, .int a3)], [], hp) v hp') : fx_X8_readCond fA [.int a3, .ref 64, .ref 3, .ref 76] hp v hp' := ⟨Nat.le_of_ble_eq_true rfl, hr, ⟨[.int a3, .ref 64, .ref 3], rfl⟩, h⟩
theorem hx_X8_readCond {fA : xe_F} : ∀ us hp v hp', fx_X8_readCond fA us hp v hp' → (us.map fun v => v.category).sum ≤ 5 ∧ xe_rt (some .boolean) v ∧ ∃ n, xr_X8_readCond fA n (0, xe_ag 0 us.reverse, [], hp) v hp' := fun us hp v hp' h => ⟨h.1, h.2.1, h.2.2.2⟩
theorem fr_X8_readCond {fA : xe_F} : ∀ us hp v hp', fx_X8_readCond fA us hp v hp' → ∃ ar, us = ar ++ [.ref 76] := fun us hp v hp' h => h.2.2.1
set_option maxRecDepth 100000 in
set_option maxHeartbeats 4000000 in
theorem kx_X8_readCond (l : Launch) (D : va_G) (k : Nat → ClassId) (B0 : Nat) (ad : Nat → Nat) (al sw : Nat) (F9 L9 : Nat) (hF : 8 ≤ F9) (hL : 200 ≤ L9) {fA : xe_F} (rfA : ∀ us hp v hp', fA us hp v hp' → ∃ ar, us = ar ++ [.ref 76]) (kfA : xe_Con l yX8_readAll (zw yX8_readAll cX8_readAll 5 (some .boolean)) ({ frames := F9, cells := 0, slots := 0, locals := L9 }) D k ad (zEx B0 ad al sw) xGT xSC xRF fA) : xe_Con l yX8_readCond (zw yX8_readCond cX8_readCond 5 (some .boolean)) ({ frames := F9 + 1, cells := 0, slots := 0, locals := L9 + 30 }) D k ad (zEx B0 ad al sw) xGT xSC xRF (fx_X8_readCond fA) := by
  have hEx := zEx_ok B0 ad al sw
  refine xe_mk (cc := cX8_readCond) (nL := 5) (ret := (some .boolean)) (fg := xg_X8_readCond) (fp := xp_X8_readCond) (sg := [(63, 213)]) (lc := []) (cv := xv_X8_readCond fA) (cs := xt_X8_readCond) (ins := xi_X8_readCond) (by decide) rfl hEx (by decide +kernel) hx_X8_readCond ?_
  intro p e s m args below meth c Q Sg w0 A θ S hK hE hAB hA hth
  refine ⟨?_, ?_, ?_, ?_, ?_, ?_⟩
  · exact zf_an
  · exact zf_an
  · exact xe_a2 ((fun H locs rest pc ls hS hdg kk => va_gets (C := RX2) (n := "OR") (d := zkD) (v := .ref (θ 213)) S.1 S.2.1 (by rw [(hth.2 13 (by decide)).1]; exact (hE.2.2.2.1.1 13 (by decide)).1.narrow hAB) hS S.2.2.2.1 (S.2.2.2.2 (.fieldLink RX8 63 "RungMoney$Key" "OR" "LRungMoney$Key;") (List.mem_cons_of_mem _ zw_1167)) (fun _ h9 => h9) hdg (kk (by show Sg (θ 213) = some 128; rw [(hth.2 13 (by decide)).1]; exact (hth.2 13 (by decide)).2)))) xe_n2
  · exact xe_n3
  · exact xe_a4 (xe_crV S hEx hE hAB hA hK hth kfA (cwV 3 S.2.2.2.2 (zg_V zw_1112 zw_1114 zw_17 zw_102 zw_1115) rfl rfl rfl (by decide +kernel) ⟨(by show F9 + 1 ≤ F9 + 1; omega), (by show 8 + (5 + 11) + L9 ≤ L9 + 30; omega)⟩) ⟨(Nat.le_of_ble_eq_true rfl), (Nat.le_of_ble_eq_true rfl)⟩ 6 rfl rfl 76 (by decide +kernel) rfA) (xe_a4 (xe_crV S hEx hE hAB hA hK hth (kx_X7_key l D k B0 ad al sw) (cwV 0 S.2.2.2.2 (zg_V zw_1120 zw_510 zw_511 zw_97 zw_512) rfl rfl rfl (by decide +kernel) ⟨(by show 1 + 1 ≤ F9 + 1; omega), (by show 8 + (1 + 11) + 22 ≤ L9 + 30; omega)⟩) ⟨(Nat.le_of_ble_eq_true rfl), (Nat.le_of_ble_eq_true rfl)⟩ 5 rfl rfl 3 (by decide +kernel) fr_X7_key) (xe_a4 (xe_crV S hEx hE hAB hA hK hth (kx_X7_step l D k B0 ad al sw) (cwV 0 S.2.2.2.2 (zg_V zw_1149 zw_494 zw_495 zw_97 zw_496) rfl rfl rfl (by decide +kernel) ⟨(by show 1 + 1 ≤ F9 + 1; omega), (by show 8 + (1 + 11) + 24 ≤ L9 + 30; omega)⟩) ⟨(Nat.le_of_ble_eq_true rfl), (Nat.le_of_ble_eq_true rfl)⟩ 5 rfl rfl 3 (by decide +kernel) fr_X7_step) (xe_a4 (xe_crV S hEx hE hAB hA hK hth (kx_X8_add l D k B0 ad al sw) (cwV 3 S.2.2.2.2 (zg_V zw_1151 zw_1153 zw_19 zw_102 zw_1154) rfl rfl rfl (by decide +kernel) ⟨(by show 0 + 1 ≤ F9 + 1; omega), (by show 8 + (4 + 11) + 0 ≤ L9 + 30; omega)⟩) ⟨(Nat.le_of_ble_eq_true rfl), (Nat.le_of_ble_eq_true rfl)⟩ 6 rfl rfl 76 (by decide +kernel) fr_X8_add) xe_n4)))
  · exact xe_n4
set_option maxRecDepth 100000 in
theorem pt_X8_readCond_0 {fA : xe_F} {a3 : Int32} {I I1 : Nat → Nat → Int32} {L L1 : Nat → Nat → Int64} (c1 : fA [.int a3, .ref 64, .ref 3, .ref 76] (I, L) (some (.int 1)) (I1, L1)) {v9 : Option Value} {hp9 : xe_H} (r9 : ∃ n, xr_X8_readCond fA n (15, [(0, .ref 76), (1, .ref 3), (2, .ref 64), (3, .int a3), (4, .int (0 : Int32))], [], (I1, L1)) v9 hp9) : ∃ n, xr_X8_readCond fA n (0, [(0, .ref 76), (1, .ref 3), (2, .ref 64), (3, .int a3)], [], (I, L)) v9 hp9 := by
  refine xe_go 3 (s' := (4, [(0, .ref 76), (1, .ref 3), (2, .ref 64), (3, .int a3)], [.int a3, .ref 64, .ref 3, .ref 76], (I, L))) rfl ?_
  refine xe_vir (n := 4) (f := fA) rfl (Nat.le_of_ble_eq_true rfl) (List.mem_of_getElem? (i := 0) rfl) (Nat.le_of_ble_eq_true rfl) c1 ?_
  refine xe_go 2 (s' := (15, [(0, .ref 76), (1, .ref 3), (2, .ref 64), (3, .int a3), (4, .int (0 : Int32))], [], (I1, L1))) rfl ?_
  exact xe_nrm [0, 1, 2, 3, 4] rfl r9
set_option maxRecDepth 100000 in
theorem pt_X8_readCond_1 {fA : xe_F} {a3 : Int32} {I I1 : Nat → Nat → Int32} {L L1 : Nat → Nat → Int64} (c1 : fA [.int a3, .ref 64, .ref 3, .ref 76] (I, L) (some (.int 0)) (I1, L1)) : ∃ n, xr_X8_readCond fA n (0, [(0, .ref 76), (1, .ref 3), (2, .ref 64), (3, .int a3)], [], (I, L)) (some (.int (0 : Int32))) (I1, L1) := by
  refine xe_go 3 (s' := (4, [(0, .ref 76), (1, .ref 3), (2, .ref 64), (3, .int a3)], [.int a3, .ref 64, .ref 3, .ref 76], (I, L))) rfl ?_
  refine xe_vir (n := 4) (f := fA) rfl (Nat.le_of_ble_eq_true rfl) (List.mem_of_getElem? (i := 0) rfl) (Nat.le_of_ble_eq_true rfl) c1 ?_
  refine xe_go 1 (s' := (11, [(0, .ref 76), (1, .ref 3), (2, .ref 64), (3, .int a3)], [.int (0 : Int32)], (I1, L1))) rfl ?_
  exact xe_end rfl rfl rfl
set_option maxRecDepth 100000 in
theorem pt_X8_readCond_2 {fA : xe_F} {l3 l4 : Int32} {I : Nat → Nat → Int32} {L : Nat → Nat → Int64} (h1 : (xe_cmp .ge l4 (20 : Int32)) = true) : ∃ n, xr_X8_readCond fA n (15, [(0, .ref 76), (1, .ref 3), (2, .ref 64), (3, .int l3), (4, .int l4)], [], (I, L)) (some (.int (1 : Int32))) (I, L) := by
  refine xe_bT 2 (A := (63, [(0, .ref 76), (1, .ref 3), (2, .ref 64), (3, .int l3), (4, .int l4)], [], (I, L))) (B := (22, [(0, .ref 76), (1, .ref 3), (2, .ref 64), (3, .int l3), (4, .int l4)], [], (I, L))) h1 rfl ?_
  refine xe_go 0 (s' := (64, [(0, .ref 76), (1, .ref 3), (2, .ref 64), (3, .int l3), (4, .int l4)], [.int (1 : Int32)], (I, L))) rfl ?_
  exact xe_end rfl rfl rfl
set_option maxRecDepth 100000 in
theorem pt_X8_readCond_3 {fA : xe_F} {l3 l4 : Int32} {I I1 I2 I3 I4 : Nat → Nat → Int32} {L L1 L2 L3 L4 : Nat → Nat → Int64} {k1 : Nat} (h1 : (xe_cmp .ge l4 (20 : Int32)) = false) (c1 : fx_X7_key [.ref 3] (I, L) (some (.ref k1)) (I1, L1)) (h2 : (Nat.beq k1 213) = true) (c2 : fx_X7_step [.ref 3] (I1, L1) none (I2, L2)) (c3 : fA [.int l3, .ref 64, .ref 3, .ref 76] (I2, L2) (some (.int 1)) (I3, L3)) (c4 : fx_X8_add [.int (0 : Int32), .int (0 : Int32), .ref 213, .ref 76] (I3, L3) none (I4, L4)) {v9 : Option Value} {hp9 : xe_H} (r9 : ∃ n, xr_X8_readCond fA n (15, [(0, .ref 76), (1, .ref 3), (2, .ref 64), (3, .int l3), (4, .int (l4 + (1 : Int32)))], [], (I4, L4)) v9 hp9) : ∃ n, xr_X8_readCond fA n (15, [(0, .ref 76), (1, .ref 3), (2, .ref 64), (3, .int l3), (4, .int l4)], [], (I, L)) v9 hp9 := by
  refine xe_bF 2 (A := (63, [(0, .ref 76), (1, .ref 3), (2, .ref 64), (3, .int l3), (4, .int l4)], [], (I, L))) (B := (22, [(0, .ref 76), (1, .ref 3), (2, .ref 64), (3, .int l3), (4, .int l4)], [], (I, L))) h1 rfl ?_
  refine xe_go 0 (s' := (23, [(0, .ref 76), (1, .ref 3), (2, .ref 64), (3, .int l3), (4, .int l4)], [.ref 3], (I, L))) rfl ?_
  refine xe_vir (n := 1) (f := fx_X7_key) rfl (Nat.le_of_ble_eq_true rfl) (List.mem_of_getElem? (i := 1) rfl) (Nat.le_of_ble_eq_true rfl) c1 ?_
  refine xe_bT 1 (A := (32, [(0, .ref 76), (1, .ref 3), (2, .ref 64), (3, .int l3), (4, .int l4)], [], (I1, L1))) (B := (63, [(0, .ref 76), (1, .ref 3), (2, .ref 64), (3, .int l3), (4, .int l4)], [], (I1, L1))) h2 rfl ?_
  refine xe_go 0 (s' := (33, [(0, .ref 76), (1, .ref 3), (2, .ref 64), (3, .int l3), (4, .int l4)], [.ref 3], (I1, L1))) rfl ?_
  refine xe_vir (n := 1) (f := fx_X7_step) rfl (Nat.le_of_ble_eq_true rfl) (List.mem_of_getElem? (i := 2) rfl) (Nat.le_of_ble_eq_true rfl) c2 ?_
  refine xe_go 3 (s' := (40, [(0, .ref 76), (1, .ref 3), (2, .ref 64), (3, .int l3), (4, .int l4)], [.int l3, .ref 64, .ref 3, .ref 76], (I2, L2))) rfl ?_
  refine xe_vir (n := 4) (f := fA) rfl (Nat.le_of_ble_eq_true rfl) (List.mem_of_getElem? (i := 0) rfl) (Nat.le_of_ble_eq_true rfl) c3 ?_
  refine xe_go 4 (s' := (54, [(0, .ref 76), (1, .ref 3), (2, .ref 64), (3, .int l3), (4, .int l4)], [.int (0 : Int32), .int (0 : Int32), .ref 213, .ref 76], (I3, L3))) rfl ?_
  refine xe_vir (n := 4) (f := fx_X8_add) rfl (Nat.le_of_ble_eq_true rfl) (List.mem_of_getElem? (i := 3) rfl) (Nat.le_of_ble_eq_true rfl) c4 ?_
  refine xe_go 1 (s' := (15, [(0, .ref 76), (1, .ref 3), (2, .ref 64), (3, .int l3), (4, .int (l4 + (1 : Int32)))], [], (I4, L4))) rfl ?_
  exact xe_nrm [0, 1, 2, 3, 4] rfl r9
set_option maxRecDepth 100000 in
theorem pt_X8_readCond_4 {fA : xe_F} {l3 l4 : Int32} {I I1 I2 I3 : Nat → Nat → Int32} {L L1 L2 L3 : Nat → Nat → Int64} {k1 : Nat} (h1 : (xe_cmp .ge l4 (20 : Int32)) = false) (c1 : fx_X7_key [.ref 3] (I, L) (some (.ref k1)) (I1, L1)) (h2 : (Nat.beq k1 213) = true) (c2 : fx_X7_step [.ref 3] (I1, L1) none (I2, L2)) (c3 : fA [.int l3, .ref 64, .ref 3, .ref 76] (I2, L2) (some (.int 0)) (I3, L3)) : ∃ n, xr_X8_readCond fA n (15, [(0, .ref 76), (1, .ref 3), (2, .ref 64), (3, .int l3), (4, .int l4)], [], (I, L)) (some (.int (0 : Int32))) (I3, L3) := by
  refine xe_bF 2 (A := (63, [(0, .ref 76), (1, .ref 3), (2, .ref 64), (3, .int l3), (4, .int l4)], [], (I, L))) (B := (22, [(0, .ref 76), (1, .ref 3), (2, .ref 64), (3, .int l3), (4, .int l4)], [], (I, L))) h1 rfl ?_
  refine xe_go 0 (s' := (23, [(0, .ref 76), (1, .ref 3), (2, .ref 64), (3, .int l3), (4, .int l4)], [.ref 3], (I, L))) rfl ?_
  refine xe_vir (n := 1) (f := fx_X7_key) rfl (Nat.le_of_ble_eq_true rfl) (List.mem_of_getElem? (i := 1) rfl) (Nat.le_of_ble_eq_true rfl) c1 ?_
  refine xe_bT 1 (A := (32, [(0, .ref 76), (1, .ref 3), (2, .ref 64), (3, .int l3), (4, .int l4)], [], (I1, L1))) (B := (63, [(0, .ref 76), (1, .ref 3), (2, .ref 64), (3, .int l3), (4, .int l4)], [], (I1, L1))) h2 rfl ?_
  refine xe_go 0 (s' := (33, [(0, .ref 76), (1, .ref 3), (2, .ref 64), (3, .int l3), (4, .int l4)], [.ref 3], (I1, L1))) rfl ?_
  refine xe_vir (n := 1) (f := fx_X7_step) rfl (Nat.le_of_ble_eq_true rfl) (List.mem_of_getElem? (i := 2) rfl) (Nat.le_of_ble_eq_true rfl) c2 ?_
  refine xe_go 3 (s' := (40, [(0, .ref 76), (1, .ref 3), (2, .ref 64), (3, .int l3), (4, .int l4)], [.int l3, .ref 64, .ref 3, .ref 76], (I2, L2))) rfl ?_
  refine xe_vir (n := 4) (f := fA) rfl (Nat.le_of_ble_eq_true rfl) (List.mem_of_getElem? (i := 0) rfl) (Nat.le_of_ble_eq_true rfl) c3 ?_
  refine xe_go 1 (s' := (47, [(0, .ref 76), (1, .ref 3), (2, .ref 64), (3, .int l3), (4, .int l4)], [.int (0 : Int32)], (I3, L3))) rfl ?_
  exact xe_end rfl rfl rfl
set_option maxRecDepth 100000 in
theorem pt_X8_readCond_5 {fA : xe_F} {l3 l4 : Int32} {I I1 : Nat → Nat → Int32} {L L1 : Nat → Nat → Int64} {k1 : Nat} (h1 : (xe_cmp .ge l4 (20 : Int32)) = false) (c1 : fx_X7_key [.ref 3] (I, L) (some (.ref k1)) (I1, L1)) (h2 : (Nat.beq k1 213) = false) : ∃ n, xr_X8_readCond fA n (15, [(0, .ref 76), (1, .ref 3), (2, .ref 64), (3, .int l3), (4, .int l4)], [], (I, L)) (some (.int (1 : Int32))) (I1, L1) := by
  refine xe_bF 2 (A := (63, [(0, .ref 76), (1, .ref 3), (2, .ref 64), (3, .int l3), (4, .int l4)], [], (I, L))) (B := (22, [(0, .ref 76), (1, .ref 3), (2, .ref 64), (3, .int l3), (4, .int l4)], [], (I, L))) h1 rfl ?_
  refine xe_go 0 (s' := (23, [(0, .ref 76), (1, .ref 3), (2, .ref 64), (3, .int l3), (4, .int l4)], [.ref 3], (I, L))) rfl ?_
  refine xe_vir (n := 1) (f := fx_X7_key) rfl (Nat.le_of_ble_eq_true rfl) (List.mem_of_getElem? (i := 1) rfl) (Nat.le_of_ble_eq_true rfl) c1 ?_
  refine xe_bF 1 (A := (32, [(0, .ref 76), (1, .ref 3), (2, .ref 64), (3, .int l3), (4, .int l4)], [], (I1, L1))) (B := (63, [(0, .ref 76), (1, .ref 3), (2, .ref 64), (3, .int l3), (4, .int l4)], [], (I1, L1))) h2 rfl ?_
  refine xe_go 0 (s' := (64, [(0, .ref 76), (1, .ref 3), (2, .ref 64), (3, .int l3), (4, .int l4)], [.int (1 : Int32)], (I1, L1))) rfl ?_
  exact xe_end rfl rfl rfl
def xi_X8_read : List (Nat × Nat × Instr) := [(0, 1, .aload_n 0), (1, 3, .invokevirtual 36), (4, 1, .aload_n 1), (5, 3, .sipush 200), (8, 3, .invokevirtual 39), (11, 1, .aload_n 0), (12, 1, .aload_n 1), (13, 1, .aload_n 2), (14, 1, .iconst 1), (15, 3, .invokevirtual 45), (18, 3, .ifCond .ne 5), (21, 1, .iconst 0), (22, 1, .ireturn), (23, 1, .aload_n 1), (24, 3, .getfield 49), (27, 3, .ifCond .eq 11), (30, 1, .aload_n 1), (31, 1, .iconst 1), (32, 3, .invokevirtual 52), (35, 3, .ifCond .eq 7), (38, 1, .iconst 1), (39, 3, .goto 4), (42, 1, .iconst 0), (43, 1, .ireturn)]
def xg_X8_read : zf_ft := [(49, 5, 4, .inl (0, 0))]
def xp_X8_read : zf_ft := []
def xv_X8_read (fC : xe_F) : List (Nat × Nat × xe_F) := [(36, 1, fx_X8_forget), (39, 2, fx_X7_open), (45, 4, fC), (52, 2, fx_X7_fail)]
def xt_X8_read : List (Nat × Nat × xe_F) := []
abbrev xr_X8_read (fC : xe_F) := xe_run xGT xSC xRF 3 xg_X8_read xp_X8_read [] [] (xv_X8_read fC) xt_X8_read xi_X8_read
def fx_X8_read (fC : xe_F) : xe_F := fun us hp v hp' => (us.map fun v => v.category).sum ≤ 3 ∧ xe_rt (some .boolean) v ∧ (∃ ar, us = ar ++ [.ref 76]) ∧ ∃ n, xr_X8_read fC n (0, xe_ag 0 us.reverse, [], hp) v hp'
theorem mk_X8_read {fC : xe_F}  {hp hp' : xe_H} {v : Option Value} (hr : xe_rt (some .boolean) v) (h : ∃ n, xr_X8_read fC n (0, [(0, .ref 76), (1, .ref 3), (2, .ref 64)], [], hp) v hp') : fx_X8_read fC [.ref 64, .ref 3, .ref 76] hp v hp' := ⟨Nat.le_of_ble_eq_true rfl, hr, ⟨[.ref 64, .ref 3], rfl⟩, h⟩
theorem hx_X8_read {fC : xe_F} : ∀ us hp v hp', fx_X8_read fC us hp v hp' → (us.map fun v => v.category).sum ≤ 3 ∧ xe_rt (some .boolean) v ∧ ∃ n, xr_X8_read fC n (0, xe_ag 0 us.reverse, [], hp) v hp' := fun us hp v hp' h => ⟨h.1, h.2.1, h.2.2.2⟩
theorem fr_X8_read {fC : xe_F} : ∀ us hp v hp', fx_X8_read fC us hp v hp' → ∃ ar, us = ar ++ [.ref 76] := fun us hp v hp' h => h.2.2.1
set_option maxRecDepth 100000 in
set_option maxHeartbeats 4000000 in
theorem kx_X8_read (l : Launch) (D : va_G) (k : Nat → ClassId) (B0 : Nat) (ad : Nat → Nat) (al sw : Nat) (F9 L9 : Nat) (hF : 8 ≤ F9) (hL : 200 ≤ L9) {fC : xe_F} (rfC : ∀ us hp v hp', fC us hp v hp' → ∃ ar, us = ar ++ [.ref 76]) (kfC : xe_Con l yX8_readCond (zw yX8_readCond cX8_readCond 5 (some .boolean)) ({ frames := F9, cells := 0, slots := 0, locals := L9 }) D k ad (zEx B0 ad al sw) xGT xSC xRF fC) : xe_Con l yX8_read (zw yX8_read cX8_read 3 (some .boolean)) ({ frames := F9 + 1, cells := 0, slots := 0, locals := L9 + 30 }) D k ad (zEx B0 ad al sw) xGT xSC xRF (fx_X8_read fC) := by
  have hEx := zEx_ok B0 ad al sw
  refine xe_mk (cc := cX8_read) (nL := 3) (ret := (some .boolean)) (fg := xg_X8_read) (fp := xp_X8_read) (sg := []) (lc := []) (cv := xv_X8_read fC) (cs := xt_X8_read) (ins := xi_X8_read) (by decide) rfl hEx (by decide +kernel) hx_X8_read ?_
  intro p e s m args below meth c Q Sg w0 A θ S hK hE hAB hA hth
  refine ⟨?_, ?_, ?_, ?_, ?_, ?_⟩
  · exact zf_ac ((fun H locs ws a q0 fs v rest pc ls hP he hv hdg kk => va_get (D := D) (ci := 5) (C := RX7) (T := TX7) (N := 11) (own := RX8) S.1 S.2.1 S.2.2.2.2 (zg_in inW_X7) S.2.2.2.1 hK hP q0 he rfl 4 (by decide) (S.2.2.2.2 (.fieldLink RX8 49 "RungMoney$Reader" "kind" "I") (List.mem_cons_of_mem _ zw_157)) (fun _ h9 => h9) hv hdg kk)) zf_an
  · exact zf_an
  · exact xe_n2
  · exact xe_n3
  · exact xe_a4 (xe_crV S hEx hE hAB hA hK hth (kx_X8_forget l D k B0 ad al sw) (cwV 0 S.2.2.2.2 (zg_V zw_1106 zw_626 zw_627 zw_102 zw_628) rfl rfl rfl (by decide +kernel) ⟨(by show 0 + 1 ≤ F9 + 1; omega), (by show 8 + (1 + 11) + 0 ≤ L9 + 30; omega)⟩) ⟨(Nat.le_of_ble_eq_true rfl), (Nat.le_of_ble_eq_true rfl)⟩ 6 rfl rfl 76 (by decide +kernel) fr_X8_forget) (xe_a4 (xe_crV S hEx hE hAB hA hK hth (kx_X7_open l D k B0 ad al sw) (cwV 1 S.2.2.2.2 (zg_V zw_1107 zw_490 zw_491 zw_97 zw_492) rfl rfl rfl (by decide +kernel) ⟨(by show 2 + 1 ≤ F9 + 1; omega), (by show 8 + (2 + 11) + 44 ≤ L9 + 30; omega)⟩) ⟨(Nat.le_of_ble_eq_true rfl), (Nat.le_of_ble_eq_true rfl)⟩ 5 rfl rfl 3 (by decide +kernel) fr_X7_open) (xe_a4 (xe_crV S hEx hE hAB hA hK hth kfC (cwV 3 S.2.2.2.2 (zg_V zw_1108 zw_1110 zw_16 zw_102 zw_1111) rfl rfl rfl (by decide +kernel) ⟨(by show F9 + 1 ≤ F9 + 1; omega), (by show 8 + (5 + 11) + L9 ≤ L9 + 30; omega)⟩) ⟨(Nat.le_of_ble_eq_true rfl), (Nat.le_of_ble_eq_true rfl)⟩ 6 rfl rfl 76 (by decide +kernel) rfC) (xe_a4 (xe_crV S hEx hE hAB hA hK hth (kx_X7_fail l D k B0 ad al sw) (cwV 1 S.2.2.2.2 (zg_V zw_1148 zw_526 zw_527 zw_97 zw_528) rfl rfl rfl (by decide +kernel) ⟨(by show 0 + 1 ≤ F9 + 1; omega), (by show 8 + (2 + 11) + 0 ≤ L9 + 30; omega)⟩) ⟨(Nat.le_of_ble_eq_true rfl), (Nat.le_of_ble_eq_true rfl)⟩ 5 rfl rfl 3 (by decide +kernel) fr_X7_fail) xe_n4)))
  · exact xe_n4
set_option maxRecDepth 100000 in
theorem pt_X8_read_0 {fC : xe_F} {I I1 I2 I3 : Nat → Nat → Int32} {L L1 L2 L3 : Nat → Nat → Int64} (c1 : fx_X8_forget [.ref 76] (I, L) none (I1, L1)) (c2 : fx_X7_open [.int (200 : Int32), .ref 3] (I1, L1) none (I2, L2)) (c3 : fC [.int (1 : Int32), .ref 64, .ref 3, .ref 76] (I2, L2) (some (.int 1)) (I3, L3)) (h1 : (xe_cmp .eq (I3 3 4) 0) = true) : ∃ n, xr_X8_read fC n (0, [(0, .ref 76), (1, .ref 3), (2, .ref 64)], [], (I, L)) (some (.int (1 : Int32))) (I3, L3) := by
  refine xe_go 0 (s' := (1, [(0, .ref 76), (1, .ref 3), (2, .ref 64)], [.ref 76], (I, L))) rfl ?_
  refine xe_vir (n := 1) (f := fx_X8_forget) rfl (Nat.le_of_ble_eq_true rfl) (List.mem_of_getElem? (i := 0) rfl) (Nat.le_of_ble_eq_true rfl) c1 ?_
  refine xe_go 1 (s' := (8, [(0, .ref 76), (1, .ref 3), (2, .ref 64)], [.int (200 : Int32), .ref 3], (I1, L1))) rfl ?_
  refine xe_vir (n := 2) (f := fx_X7_open) rfl (Nat.le_of_ble_eq_true rfl) (List.mem_of_getElem? (i := 1) rfl) (Nat.le_of_ble_eq_true rfl) c2 ?_
  refine xe_go 3 (s' := (15, [(0, .ref 76), (1, .ref 3), (2, .ref 64)], [.int (1 : Int32), .ref 64, .ref 3, .ref 76], (I2, L2))) rfl ?_
  refine xe_vir (n := 4) (f := fC) rfl (Nat.le_of_ble_eq_true rfl) (List.mem_of_getElem? (i := 2) rfl) (Nat.le_of_ble_eq_true rfl) c3 ?_
  refine xe_bT 3 (A := (38, [(0, .ref 76), (1, .ref 3), (2, .ref 64)], [], (I3, L3))) (B := (30, [(0, .ref 76), (1, .ref 3), (2, .ref 64)], [], (I3, L3))) h1 rfl ?_
  refine xe_go 1 (s' := (43, [(0, .ref 76), (1, .ref 3), (2, .ref 64)], [.int (1 : Int32)], (I3, L3))) rfl ?_
  exact xe_end rfl rfl rfl
set_option maxRecDepth 100000 in
theorem pt_X8_read_1 {fC : xe_F} {I I1 I2 I3 I4 : Nat → Nat → Int32} {L L1 L2 L3 L4 : Nat → Nat → Int64} (c1 : fx_X8_forget [.ref 76] (I, L) none (I1, L1)) (c2 : fx_X7_open [.int (200 : Int32), .ref 3] (I1, L1) none (I2, L2)) (c3 : fC [.int (1 : Int32), .ref 64, .ref 3, .ref 76] (I2, L2) (some (.int 1)) (I3, L3)) (h1 : (xe_cmp .eq (I3 3 4) 0) = false) (c4 : fx_X7_fail [.int (1 : Int32), .ref 3] (I3, L3) (some (.int 0)) (I4, L4)) : ∃ n, xr_X8_read fC n (0, [(0, .ref 76), (1, .ref 3), (2, .ref 64)], [], (I, L)) (some (.int (0 : Int32))) (I4, L4) := by
  refine xe_go 0 (s' := (1, [(0, .ref 76), (1, .ref 3), (2, .ref 64)], [.ref 76], (I, L))) rfl ?_
  refine xe_vir (n := 1) (f := fx_X8_forget) rfl (Nat.le_of_ble_eq_true rfl) (List.mem_of_getElem? (i := 0) rfl) (Nat.le_of_ble_eq_true rfl) c1 ?_
  refine xe_go 1 (s' := (8, [(0, .ref 76), (1, .ref 3), (2, .ref 64)], [.int (200 : Int32), .ref 3], (I1, L1))) rfl ?_
  refine xe_vir (n := 2) (f := fx_X7_open) rfl (Nat.le_of_ble_eq_true rfl) (List.mem_of_getElem? (i := 1) rfl) (Nat.le_of_ble_eq_true rfl) c2 ?_
  refine xe_go 3 (s' := (15, [(0, .ref 76), (1, .ref 3), (2, .ref 64)], [.int (1 : Int32), .ref 64, .ref 3, .ref 76], (I2, L2))) rfl ?_
  refine xe_vir (n := 4) (f := fC) rfl (Nat.le_of_ble_eq_true rfl) (List.mem_of_getElem? (i := 2) rfl) (Nat.le_of_ble_eq_true rfl) c3 ?_
  refine xe_bF 3 (A := (38, [(0, .ref 76), (1, .ref 3), (2, .ref 64)], [], (I3, L3))) (B := (30, [(0, .ref 76), (1, .ref 3), (2, .ref 64)], [], (I3, L3))) h1 rfl ?_
  refine xe_go 1 (s' := (32, [(0, .ref 76), (1, .ref 3), (2, .ref 64)], [.int (1 : Int32), .ref 3], (I3, L3))) rfl ?_
  refine xe_vir (n := 2) (f := fx_X7_fail) rfl (Nat.le_of_ble_eq_true rfl) (List.mem_of_getElem? (i := 3) rfl) (Nat.le_of_ble_eq_true rfl) c4 ?_
  refine xe_go 1 (s' := (43, [(0, .ref 76), (1, .ref 3), (2, .ref 64)], [.int (0 : Int32)], (I4, L4))) rfl ?_
  exact xe_end rfl rfl rfl
set_option maxRecDepth 100000 in
theorem pt_X8_read_2 {fC : xe_F} {I I1 I2 I3 : Nat → Nat → Int32} {L L1 L2 L3 : Nat → Nat → Int64} (c1 : fx_X8_forget [.ref 76] (I, L) none (I1, L1)) (c2 : fx_X7_open [.int (200 : Int32), .ref 3] (I1, L1) none (I2, L2)) (c3 : fC [.int (1 : Int32), .ref 64, .ref 3, .ref 76] (I2, L2) (some (.int 0)) (I3, L3)) : ∃ n, xr_X8_read fC n (0, [(0, .ref 76), (1, .ref 3), (2, .ref 64)], [], (I, L)) (some (.int (0 : Int32))) (I3, L3) := by
  refine xe_go 0 (s' := (1, [(0, .ref 76), (1, .ref 3), (2, .ref 64)], [.ref 76], (I, L))) rfl ?_
  refine xe_vir (n := 1) (f := fx_X8_forget) rfl (Nat.le_of_ble_eq_true rfl) (List.mem_of_getElem? (i := 0) rfl) (Nat.le_of_ble_eq_true rfl) c1 ?_
  refine xe_go 1 (s' := (8, [(0, .ref 76), (1, .ref 3), (2, .ref 64)], [.int (200 : Int32), .ref 3], (I1, L1))) rfl ?_
  refine xe_vir (n := 2) (f := fx_X7_open) rfl (Nat.le_of_ble_eq_true rfl) (List.mem_of_getElem? (i := 1) rfl) (Nat.le_of_ble_eq_true rfl) c2 ?_
  refine xe_go 3 (s' := (15, [(0, .ref 76), (1, .ref 3), (2, .ref 64)], [.int (1 : Int32), .ref 64, .ref 3, .ref 76], (I2, L2))) rfl ?_
  refine xe_vir (n := 4) (f := fC) rfl (Nat.le_of_ble_eq_true rfl) (List.mem_of_getElem? (i := 2) rfl) (Nat.le_of_ble_eq_true rfl) c3 ?_
  refine xe_go 1 (s' := (22, [(0, .ref 76), (1, .ref 3), (2, .ref 64)], [.int (0 : Int32)], (I3, L3))) rfl ?_
  exact xe_end rfl rfl rfl

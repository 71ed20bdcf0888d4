/-! ===== methods that throw or return: contracts by the checker, with a cut at the new exception ===== -/
def zT (B0 : Nat) (U : State) : Prop := (vx_Zq Bundle.tN "UNASSIGNED_STACK" Bundle.steD (zkA B0) U U.heap ∧ vx_Zq Bundle.tN "SUPPRESSED_SENTINEL" Bundle.listD (zkA B0) U U.heap) ∧ va_Nw (.castable "java/util/NoSuchElementException" "java/util/NoSuchElementException") U ∧ gDw U
def zTx (B0 : Nat) (ad : Nat → Nat) (al sw : Nat) (Sg : Nat → Option Nat) (ws : va_W) (U : State) : Prop := zEx B0 ad al sw Sg ws U ∧ zT B0 U
theorem zTx_ok (B0 : Nat) (ad : Nat → Nat) (al sw : Nat) : zf_Eo (zTx B0 ad al sw) B0 := by
  obtain ⟨e1, e2, e3, e4⟩ := zEx_ok B0 ad al sw
  refine ⟨?_, ?_, ?_, ?_⟩
  · intro Sg ws a U g mk h
    obtain ⟨h0, ⟨h1, h2⟩, h3, h4, h5, h6⟩ := h
    exact ⟨e1 Sg ws a U g mk h0, ⟨h1.moved (u := U) (U := U.calling g mk a) (Vm.Alike.refl U.vm), h2.moved (u := U) (U := U.calling g mk a) (Vm.Alike.refl U.vm)⟩, va_Nw.same rfl (u := U) (U := U.calling g mk a) rfl h3, va_Nw.same rfl (u := U) (U := U.calling g mk a) rfl h4, va_Nw.same rfl (u := U) (U := U.calling g mk a) rfl h5, va_Nw.same rfl (u := U) (U := U.calling g mk a) rfl h6⟩
  · exact fun Sg ws s h => e2 Sg ws s h.1
  · intro Sg w0 ws s U H locs A hE hAB hS hD hU hW
    obtain ⟨h0, ⟨h1, h2⟩, h3, h4, h5, h6⟩ := hE
    refine ⟨e3 Sg w0 ws s U H locs A h0 hAB hS hD hU hW, ⟨?_, ?_⟩, h3.warmC hW, h4.warmD hW, h5.warmD hW, h6.warmD hW⟩
    · rw [hU]
      exact (h1.kept (fun a q1 q2 => hS.2.1 a q1 (fun z => q2 (hAB a z)))).moved hW.alike
    · rw [hU]
      exact (h2.kept (fun a q1 q2 => hS.2.1 a q1 (fun z => q2 (hAB a z)))).moved hW.alike
  · exact fun Sg ws s H locs A hE hAB hS a ha => e4 Sg ws s H locs A hE.1 hAB hS a ha
def zt_po (D : va_G) (k : Nat → ClassId) (Sg : Nat → Option Nat) (GT : List zf_G) (ρ : Nat → Int) (M : zf_M) (ws : va_W) (A : Nat → Prop) : String → Unit → State → Prop := fun E9 _ t => E9 = "java/util/NoSuchElementException" ∧ ∃ ws', va_P D vwCl ws' t.heap ∧ va_K D vwCl (tyz k) t ∧ va_D A ws' ∧ zf_typ Sg k GT ws' ∧ zf_fr Sg M.2.1 ρ ws ws'
def zt_Con (l : Launch) (y : MethodName) (wsY : List Cond) (rm : Room) (D : va_G) (k : Nat → ClassId) (Ex : (Nat → Option Nat) → va_W → State → Prop) (GT : List zf_G) (NS : Nat) (M : zf_M) : Prop :=
  ∀ (Sg : Nat → Option Nat) (ws : va_W) (ρ : Nat → Int) (θ : Nat → Nat) (vs : List Value) (sz : Nat), (∀ a g, Sg a = some g → g < 64 → a = θ g) → (∀ g, g < NS → g < 64 → Sg (θ g) = some g) → zf_typ Sg k GT ws → zf_pre Sg ρ θ M vs ws →
    vx_Met l y wsY rm (va_Pc vs.reverse (g_pr D k (Ex Sg ws) sz ws)) (zf_Q (zf_po D k Sg GT ρ θ M ws (va_A ws sz)) (va_A ws sz)) (vx_X (fun (_ : Unit) => True) (zt_po D k Sg GT ρ M ws (va_A ws sz)) (va_A ws sz)) 1 6 (va_A ws sz)
theorem zt_at : ∀ w ∈ (vx_at0 RX12 154 "java/util/NoSuchElementException" ["java/lang/RuntimeException", "java/lang/Exception"]).filter goodWord, w ∈ lw_tbl := by decide +kernel
theorem zt_at2 : ∀ w ∈ (vx_at0 RX12 154 "java/util/NoSuchElementException" ["java/lang/RuntimeException", "java/lang/Exception"]).filter goodWord, w ∈ lw_g := fun w h => List.mem_filter.mpr ⟨zt_at w h, (List.mem_filter.mp h).2⟩
section ZTM
variable {l : Launch} {cc : ByteArray} {nL NS fuel : Nat} {D : va_G} {k : Nat → ClassId} {y : MethodName} {wsY : List Cond} {rm : Room} {GT : List zf_G} {M : zf_M} {Ms : List zf_M} {fg fp : zf_ft} {ins : List zf_X}
theorem zt_ri {Sg : Nat → Option Nat} {ρ : Nat → Int} {θ : Nat → Nat} {ws ws' : va_W} {i : Instr} {v : Option Value} (hty : zf_tyo (some .int) M = true) (h : zf_post Sg k GT ρ θ M ws v ws') (hrv : zf_rv i v) : i = .ireturn ∧ ∃ x, v = some (.int x) := by
  obtain ⟨⟨o, ho, ρ1, θ1, -, -, -, -, -, h3⟩, -, -⟩ := h
  have hq := List.all_eq_true.mp hty o ho
  rcases hrv with h | ⟨-, a, rfl⟩ | ⟨-, rfl⟩
  · exact h
  · exfalso
    cases h0 : o.1 with
    | none => rw [h0] at hq; cases hq
    | some q =>
      rw [h0] at hq h3
      match q, hq, h3 with
      | .inl f, _, ⟨x, e, _⟩ => cases e
  · exfalso
    cases h0 : o.1 with
    | none => rw [h0] at hq; cases hq
    | some q => rw [h0] at h3; exact h3
theorem zt_mk (hlt : l.stackTraces = false) (hcls : y.cls = RX12) (hw : wsY = Cond.code y cc nL (some .int) :: lw_g) (pn : Nat) (d0 : decode cc pn = .ok (.new 152, 3)) (d3 : decode cc (pn + 3) = .ok (.dup, 1)) (d4 : decode cc (pn + 4) = .ok (.invokespecial 154, 3)) (d7 : decode cc (pn + 7) = .ok (.athrow, 1)) (hfr : 5 < rm.frames) (hlo : 81 ≤ rm.locals) (hce : rm.cells = 1) (hsl : rm.slots = 6)
    (B0 : Nat) (ad : Nat → Nat) (al sw : Nat) (hins : ins.all (fun x => decide (decode cc x.1 = .ok (x.2.2.1, x.2.1))) = true) (hty : zf_tyo (some .int) M = true) (hnl : Nat.ble (zf_cs M.1.2.2.2.2.1) nL = true)
    (hchk : (Nat.ble 64 M.1.2.2.1 && M.2.1.all (fun q => zf_bt M.1.1.length q.2.1.1 && zf_bt M.1.1.length q.2.2.1) && zf_run M.1.1.length M.1.2.2.1 NS nL GT M Ms fg fp ins [(pn, (M.1.1, [], M.1.2.2.1, [], [], []), zf_con 0, 0)] none fuel 0 (zf_ent0 M)) = true) (hrules : zf_Rl l y wsY rm cc nL D k GT NS B0 Ms fg fp ins (zEx B0 ad al sw)) : zt_Con l y wsY rm D k (zTx B0 ad al sw) GT NS M := by
  intro Sg ws ρ θ vs sz hone hsing ht hpre
  refine vx_ofW (cc := cc) (maxL := nL) (ret := some .int) (by rw [hcls]; decide) hw ?_
  intro p e s m args below meth c s₁ B hml hno hv
  obtain ⟨rfl, hsz, hP, hK, hD0, hE, hT⟩ := hv
  have hEx := zEx_ok B0 ad al sw
  have hx := B.exec
  have hb := B.bytes
  have hr := B.returns
  have hts := atoms_spec (ws := wsY) B.pre
  have hown : s.vm.findClass y.cls = some m.cls := findClass_of_methodNamed B.named
  have hown' : s.vm.findClass RX12 = some m.cls := hcls ▸ hown
  have hlocks := B.notSynchronized
  subst hsz
  have hD := hD0.self (sz := s.heap.size)
  have hAB := hEx.2.1 Sg ws s hE
  generalize hAe : va_A ws s.heap.size = A at hD hAB ⊢
  have hA : ∀ q : Nat, s.heap.size ≤ q → A q := fun q h => by rw [← hAe]; exact Or.inr h
  have hS : va_S A s.heap s.heap [] := va_S.rf
  obtain ⟨e1, e2, e3, e4⟩ := hpre
  have e3r := zf_f2_rev e3
  have hcat : (lg_sl vs.reverse).length ≤ nL := by
    rw [zf_lgl, zf_cs_ok e3r]
    have h1 : zf_cs M.1.2.2.2.2.1.reverse = zf_cs M.1.2.2.2.2.1 := by
      rw [← zf_cs_ok e3r, ← zf_cs_ok e3, List.map_reverse, List.sum_reverse]
    rw [h1]
    exact Nat.le_of_ble_eq_true hnl
  have hl := lv_entry vs.reverse (n := nL) hcat
  rw [lg_entry_eq]
  simp only [Bool.and_eq_true] at hchk
  obtain ⟨⟨h64, heff⟩, hrun⟩ := hchk
  obtain ⟨r1, r2, r3⟩ := hrules p e s m vs.reverse.toArray below meth c (vx_MQ below (zf_Q (zf_po D k Sg GT ρ θ M ws A) A) (vx_X (fun (_ : Unit) => True) (zt_po D k Sg GT ρ M ws A) A) vs.reverse.toArray s 1 6 A) Sg ws A θ ⟨hx, hb, hml, hown, hts⟩ hK hE hAB hA hone hsing
  refine zf_run_ok (H0 := s.heap) (A := A) (ws0 := ws) (ρe := ρ) (θe := θ) (om := none) (cuts := [(pn, (M.1.1, [], M.1.2.2.1, [], [], []), zf_con 0, 0)]) hx hb hK hone (Nat.le_of_ble_eq_true h64) hsing (fun H locs hS' => hEx.2.2.2 Sg ws s H locs A hE hAB hS') r1 r2 (fun x hx' => of_decide_eq_true (List.all_eq_true.mp hins x hx')) r3 ?_ heff (Nat.le_refl _) (Nat.le_refl _) (fun _ _ => rfl) (fun _ _ => rfl) (fun x hx' => by cases hx') ?_ fuel 0 (zf_ent0 M) hrun ρ θ ws s.heap [] _ [] (fun _ _ => rfl) (fun _ _ => rfl) ⟨hP, hD, hS, ht, fun a g i v _ _ h => h⟩ ⟨e1, e2, ⟨_, hl, zf_ag_ok e3r⟩, trivial, e4⟩
  · intro H locs ws' ls pc i v hP' hD' hS' hpost hdg hrv
    have post : ∀ t : State, t.heap = H → s.WarmedH t.vm → zf_Q (zf_po D k Sg GT ρ θ M ws A) A vs.reverse.toArray s (.returned v) t := fun t ht' hW => ⟨⟨v, rfl, ws', by rw [ht']; exact hP', va_K.moved hW.alike hK, hD', hpost⟩, hS'.F ht'⟩
    obtain ⟨rfl, x, rfl⟩ := zt_ri hty hpost hrv
    exact vx_ret (W.widen (k := 1) (n := 6) (Nat.zero_le _) (Nat.zero_le _) (W.iret hx hb hr post hS'.2.2 hdg hlocks))
  · intro u hu ρ1 θ1 ws1 H locs ls st g1 g2 hW hsat g5 g6
    cases List.mem_singleton.mp hu
    obtain ⟨hP1, hD1, hS1, ht1, hfr1⟩ := hW
    obtain ⟨-, -, ⟨lv, hlv, -⟩, hst, -⟩ := hsat
    cases zf_nil hst
    refine vx_throw0 (A := A) (names := ["java/lang/RuntimeException", "java/lang/Exception"]) hx hb hlt hown' (by decide) (by decide) (hts (.classLink RX12 152 "java/util/NoSuchElementException") (by rw [hw]; exact List.mem_cons_of_mem _ (List.mem_filter.mpr ⟨by decide +kernel, rfl⟩))) (hts (.initialized "java/util/NoSuchElementException") (by rw [hw]; exact List.mem_cons_of_mem _ (List.mem_filter.mpr ⟨by decide +kernel, rfl⟩))) (vx_hat (B := [.castable "java/util/NoSuchElementException" "java/util/NoSuchElementException", .declares ⟨"java/lang/RuntimeException", "<init>", "()V"⟩, .declares ⟨"java/lang/Exception", "<init>", "()V"⟩, .declares ⟨"java/lang/Throwable", "<init>", "()V"⟩]) (fun w hw9 => hts w (by rw [hw]; exact List.mem_cons_of_mem _ (zt_at2 w hw9))) (by decide +kernel) (vx_c (va_Nw.use rfl hT.2.1) (vx_c (va_Nw.use rfl hT.2.2.1) (vx_c (va_Nw.use rfl hT.2.2.2.1) (vx_c (va_Nw.use rfl hT.2.2.2.2) vx_n))))) (by decide +kernel) (hT.1.1.narrow hAB) (hT.1.2.narrow hAB) hS1 (by rw [hml]; exact hlv.1) d0 d3 d4 d7 (fun x hx9 => (hno x hx9).elim) ?_ ?_ ?_ ?_ hlocks ?_ hS1.2.2 (Nat.le_refl _) (Nat.le_refl _)
    · exact hfr
    · exact hlo
    · show 0 + 1 ≤ rm.cells
      rw [hce]; exact Nat.le_refl _
    · show 0 + 6 ≤ rm.slots
      rw [hsl]; exact Nat.le_refl _
    · intro t hvm hz hk
      exact ⟨(), trivial, ⟨rfl, ws1, hP1.kept (fun j q h => hk q.1 (hP1 j q h).lt), va_K.moved hvm hK, hD1, ht1, hfr1⟩, Nat.le_trans hS1.1 hz, fun q h1 h2 => (hk q (Nat.lt_of_lt_of_le h1 hS1.1)).trans (hS1.2.1 q h1 h2)⟩
end ZTM
def zm_X12_ladder : zf_M := (([((-2147483648), 2147483647), ((-2147483648), 2147483647)], [], 64, [], [.inl ([(1, 1)], 0), .inl ([(0, 1)], 0), .inr (some (0, 0))], []), [], [(some (.inl ([(2, 1)], 0)), ([(0, 15), (0, 5), ((-2147483648), 2147483647)], [], 64, [], [], []))])
def zn_X12_ladder : List zf_X := [(0, 1, .aload_n 0, []), (1, 3, .getfield 37, []), (4, 3, .getfield 142, []), (7, 1, .iload_n 1, []), (8, 3, .invokevirtual 146, [0]), (11, 3, .ifCond .eq 12, []), (14, 1, .iload_n 2, []), (15, 3, .ifCond .lt 8, []), (18, 1, .iload_n 2, []), (19, 1, .iconst 5, []), (20, 3, .if_icmp .le 11, []), (23, 3, .new 152, []), (26, 1, .dup, []), (27, 3, .invokespecial 154, []), (30, 1, .athrow, []), (31, 1, .aload_n 0, []), (32, 3, .getfield 37, []), (35, 3, .getfield 142, []), (38, 1, .iload_n 1, []), (39, 1, .iload_n 2, []), (40, 3, .invokevirtual 155, [1]), (43, 1, .ireturn, [])]
set_option maxRecDepth 100000 in
set_option maxHeartbeats 4000000 in
theorem kt_X12_ladder (l : Launch) (hlt : l.stackTraces = false) (D : va_G) (k : Nat → ClassId) (B0 : Nat) (ad : Nat → Nat) (al sw : Nat) : zt_Con l yX12_ladder (zw yX12_ladder cX12_ladder 3 (some .int)) ({ frames := 6, cells := 1, slots := 6, locals := 81 }) D k (zTx B0 ad al sw) zGT 37 zm_X12_ladder := by
  have hEx := zEx_ok B0 ad al sw
  refine zt_mk (cc := cX12_ladder) (nL := 3) (Ms := [zm_X3_has, zm_X3_measure]) (fg := [(37, 10, 3, .inl (0, 0)), (142, 8, 2, .inl (0, 0))]) (fp := []) (ins := zn_X12_ladder) (fuel := 3000) hlt rfl rfl 23 (by decide +kernel) (by decide +kernel) (by decide +kernel) (by decide +kernel) (Nat.le_of_ble_eq_true rfl) (Nat.le_of_ble_eq_true rfl) rfl rfl B0 ad al sw (by decide +kernel) (by decide +kernel) (by decide +kernel) (by decide +kernel) ?_
  intro p e s m args below meth c Q Sg w0 A θ0 S hK hE hAB hA hone hsing
  refine ⟨?_, ?_, ?_⟩
  · exact zf_ac ((fun H locs ws a q0 fs v rest pc ls hP he hv hdg kk => va_get (D := D) (ci := 10) (C := RX12) (T := TX12) (N := 18) (own := RX12) S.1 S.2.1 S.2.2.2.2 (zg_in inW_X12) S.2.2.2.1 hK hP q0 he rfl 3 (by decide) (S.2.2.2.2 (.fieldLink RX12 37 "RungMoney" "town" "LRungMoney$Town;") (List.mem_cons_of_mem _ zw_402)) (fun _ h9 => h9) hv hdg kk)) (zf_ac ((fun H locs ws a q0 fs v rest pc ls hP he hv hdg kk => va_get (D := D) (ci := 8) (C := RX10) (T := TX10) (N := 9) (own := RX12) S.1 S.2.1 S.2.2.2.2 (zg_in inW_X10) S.2.2.2.1 hK hP q0 he rfl 2 (by decide) (S.2.2.2.2 (.fieldLink RX12 142 "RungMoney$Town" "ladders" "LRungMoney$Ladders;") (List.mem_cons_of_mem _ zw_269)) (fun _ h9 => h9) hv hdg kk)) zf_an)
  · exact zf_an
  · exact zf_crl (xs := [(.invokevirtual 146, 3, 0), (.invokevirtual 155, 3, 1)]) (by decide +kernel) (zf_ac (zf_crV S hEx hE hAB hA hK hone hsing (kc_X3_has l D k B0 ad al sw) (cwV 1 S.2.2.2.2 (zg_V zw_1010 zw_646 zw_647 zw_100 zw_648) rfl rfl rfl (by decide +kernel) ⟨(Nat.le_of_ble_eq_true rfl), (Nat.le_of_ble_eq_true rfl)⟩) ⟨(Nat.le_of_ble_eq_true rfl), (Nat.le_of_ble_eq_true rfl)⟩ 1 rfl rfl (ar := [.inl ([(0, 1)], 0)]) rfl rfl (by decide +kernel)) (zf_ac (zf_crV S hEx hE hAB hA hK hone hsing (kc_X3_measure l D k B0 ad al sw) (cwV 2 S.2.2.2.2 (zg_V zw_1011 zw_666 zw_667 zw_100 zw_668) rfl rfl rfl (by decide +kernel) ⟨(Nat.le_of_ble_eq_true rfl), (Nat.le_of_ble_eq_true rfl)⟩) ⟨(Nat.le_of_ble_eq_true rfl), (Nat.le_of_ble_eq_true rfl)⟩ 1 rfl rfl (ar := [.inl ([(1, 1)], 0), .inl ([(0, 1)], 0)]) rfl rfl (by decide +kernel)) zf_an))
def zm_X12_test : zf_M := (([((-2147483648), 2147483647), ((-2147483648), 2147483647)], [], 64, [], [.inl ([(1, 1)], 0), .inl ([(0, 1)], 0), .inr (some (0, 0))], []), [], [(some (.inl ([(2, 1)], 0)), ([(1, 3), (1, 1), ((-2147483648), 2147483647)], [], 64, [], [], [])), (some (.inl ([(2, 1)], 0)), ([(1, 3), (0, 0), ((-2147483648), 2147483647)], [], 64, [], [], []))])
def zn_X12_test : List zf_X := [(0, 1, .aload_n 0, []), (1, 3, .getfield 37, []), (4, 3, .getfield 142, []), (7, 1, .iconst 2, []), (8, 3, .invokevirtual 206, [0]), (11, 1, .istore_n 3, []), (12, 1, .iload_n 1, []), (13, 1, .iconst 1, []), (14, 3, .if_icmp .lt 22, []), (17, 1, .iload_n 1, []), (18, 1, .iconst 3, []), (19, 3, .if_icmp .gt 17, []), (22, 1, .iload_n 2, []), (23, 3, .ifCond .lt 13, []), (26, 1, .iload_n 2, []), (27, 1, .iconst 1, []), (28, 3, .if_icmp .gt 8, []), (31, 1, .iload_n 3, []), (32, 1, .iload_n 1, []), (33, 3, .if_icmp .ge 11, []), (36, 3, .new 152, []), (39, 1, .dup, []), (40, 3, .invokespecial 154, []), (43, 1, .athrow, []), (44, 1, .aload_n 0, []), (45, 3, .getfield 37, []), (48, 3, .getfield 142, []), (51, 1, .iconst 3, []), (52, 3, .invokevirtual 206, [0]), (55, 2, .istore 4, []), (57, 1, .iload_n 1, []), (58, 1, .iload_n 3, []), (59, 3, .invokestatic 292, [1]), (62, 2, .istore 5, []), (64, 2, .iload 5, []), (66, 1, .iload_n 1, []), (67, 2, .iload 4, []), (69, 3, .invokestatic 292, [1]), (72, 1, .isub, []), (73, 2, .istore 6, []), (75, 2, .iload 6, []), (77, 2, .iload 5, []), (79, 3, .invokestatic 295, [2]), (82, 2, .istore 7, []), (84, 1, .iload_n 2, []), (85, 3, .ifCond .ne 8, []), (88, 2, .iload 6, []), (90, 3, .goto 5, []), (93, 2, .iload 5, []), (95, 2, .iload 7, []), (97, 1, .iconst 1, []), (98, 3, .invokestatic 298, [3]), (101, 1, .idiv, []), (102, 1, .ireturn, [])]
theorem zw_1294 : (Jvm.Cond.code yX12_waysToDraw cX12_waysToDraw 4 (some .int)) ∈ lw_g := lw_t6 rfl (List.mem_of_getElem? (i := 0) rfl)
theorem zw_1292 : (Jvm.Cond.methodLink RX12 292 yX12_waysToDraw) ∈ lw_g := lw_t5 rfl (List.mem_of_getElem? (i := 238) rfl)
theorem zw_1293 : (Jvm.Cond.static yX12_waysToDraw) ∈ lw_g := lw_t5 rfl (List.mem_of_getElem? (i := 239) rfl)
theorem zw_1298 : (Jvm.Cond.code yX12_greatestDivisor cX12_greatestDivisor 6 (some .int)) ∈ lw_g := lw_t6 rfl (List.mem_of_getElem? (i := 4) rfl)
theorem zw_1296 : (Jvm.Cond.methodLink RX12 295 yX12_greatestDivisor) ∈ lw_g := lw_t6 rfl (List.mem_of_getElem? (i := 2) rfl)
theorem zw_1297 : (Jvm.Cond.static yX12_greatestDivisor) ∈ lw_g := lw_t6 rfl (List.mem_of_getElem? (i := 3) rfl)
set_option maxRecDepth 100000 in
set_option maxHeartbeats 4000000 in
theorem kt_X12_test (l : Launch) (hlt : l.stackTraces = false) (D : va_G) (k : Nat → ClassId) (B0 : Nat) (ad : Nat → Nat) (al sw : Nat) : zt_Con l yX12_test (zw yX12_test cX12_test 8 (some .int)) ({ frames := 6, cells := 1, slots := 6, locals := 81 }) D k (zTx B0 ad al sw) zGT 37 zm_X12_test := by
  have hEx := zEx_ok B0 ad al sw
  refine zt_mk (cc := cX12_test) (nL := 8) (Ms := [zm_X3_sum, zm_X12_waysToDraw, zm_X12_greatestDivisor, zf_mMax]) (fg := [(37, 10, 3, .inl (0, 0)), (142, 8, 2, .inl (0, 0))]) (fp := []) (ins := zn_X12_test) (fuel := 3000) hlt rfl rfl 36 (by decide +kernel) (by decide +kernel) (by decide +kernel) (by decide +kernel) (Nat.le_of_ble_eq_true rfl) (Nat.le_of_ble_eq_true rfl) rfl rfl B0 ad al sw (by decide +kernel) (by decide +kernel) (by decide +kernel) (by decide +kernel) ?_
  intro p e s m args below meth c Q Sg w0 A θ0 S hK hE hAB hA hone hsing
  refine ⟨?_, ?_, ?_⟩
  · exact zf_ac ((fun H locs ws a q0 fs v rest pc ls hP he hv hdg kk => va_get (D := D) (ci := 10) (C := RX12) (T := TX12) (N := 18) (own := RX12) S.1 S.2.1 S.2.2.2.2 (zg_in inW_X12) S.2.2.2.1 hK hP q0 he rfl 3 (by decide) (S.2.2.2.2 (.fieldLink RX12 37 "RungMoney" "town" "LRungMoney$Town;") (List.mem_cons_of_mem _ zw_402)) (fun _ h9 => h9) hv hdg kk)) (zf_ac ((fun H locs ws a q0 fs v rest pc ls hP he hv hdg kk => va_get (D := D) (ci := 8) (C := RX10) (T := TX10) (N := 9) (own := RX12) S.1 S.2.1 S.2.2.2.2 (zg_in inW_X10) S.2.2.2.1 hK hP q0 he rfl 2 (by decide) (S.2.2.2.2 (.fieldLink RX12 142 "RungMoney$Town" "ladders" "LRungMoney$Ladders;") (List.mem_cons_of_mem _ zw_269)) (fun _ h9 => h9) hv hdg kk)) zf_an)
  · exact zf_an
  · exact zf_crl (xs := [(.invokevirtual 206, 3, 0), (.invokestatic 292, 3, 1), (.invokestatic 295, 3, 2), (.invokestatic 298, 3, 3)]) (by decide +kernel) (zf_ac (zf_crV S hEx hE hAB hA hK hone hsing (kc_X3_sum l D k B0 ad al sw) (cwV 1 S.2.2.2.2 (zg_V zw_721 zw_722 zw_723 zw_100 zw_724) rfl rfl rfl (by decide +kernel) ⟨(Nat.le_of_ble_eq_true rfl), (Nat.le_of_ble_eq_true rfl)⟩) ⟨(Nat.le_of_ble_eq_true rfl), (Nat.le_of_ble_eq_true rfl)⟩ 1 rfl rfl (ar := [.inl ([(0, 1)], 0)]) rfl rfl (by decide +kernel)) (zf_ac (zf_crS S hEx hE hAB hA hK hone hsing (kc_X12_waysToDraw l D k B0 ad al sw) (va_cwS 2 S.2.2.2.2 (zg_S zw_1292 zw_1293 zw_95 zw_1294) rfl rfl rfl (by decide +kernel) ⟨(Nat.le_of_ble_eq_true rfl), (Nat.le_of_ble_eq_true rfl)⟩) ⟨(Nat.le_of_ble_eq_true rfl), (Nat.le_of_ble_eq_true rfl)⟩ rfl) (zf_ac (zf_crS S hEx hE hAB hA hK hone hsing (kc_X12_greatestDivisor l D k B0 ad al sw) (va_cwS 2 S.2.2.2.2 (zg_S zw_1296 zw_1297 zw_95 zw_1298) rfl rfl rfl (by decide +kernel) ⟨(Nat.le_of_ble_eq_true rfl), (Nat.le_of_ble_eq_true rfl)⟩) ⟨(Nat.le_of_ble_eq_true rfl), (Nat.le_of_ble_eq_true rfl)⟩ rfl) (zf_ac (zf_crmax (own := RX12) S.1 S.2.1 S.2.2.1 S.2.2.2.1 (S.2.2.2.2 (.methodLink RX12 298 Lib.Math.max.name) (List.mem_cons_of_mem _ zw_1295)) (S.2.2.2.2 (.static Lib.Math.max.name) (List.mem_cons_of_mem _ zw_697)) (S.2.2.2.2 (.initialized "java/lang/Math") (List.mem_cons_of_mem _ zw_116)) (S.2.2.2.2 (.code Lib.Math.max.name Lib.Math.max.code 2 (some .int)) (List.mem_cons_of_mem _ zw_698)) (Nat.le_of_ble_eq_true rfl) (Nat.le_of_ble_eq_true rfl) (Nat.le_of_ble_eq_true rfl) (Nat.le_of_ble_eq_true rfl)) zf_an))))
def zm_X12_stands : zf_M := (([((-2147483648), 2147483647)], [], 64, [], [.inl ([(0, 1)], 0), .inr (some (0, 0))], []), [], [(some (.inl ([(1, 1)], 0)), ([(0, 5), ((-2147483648), 2147483647)], [], 64, [], [], []))])
def zn_X12_stands : List zf_X := [(0, 1, .aload_n 0, []), (1, 3, .getfield 37, []), (4, 1, .iload_n 1, []), (5, 3, .invokevirtual 162, [0]), (8, 3, .ifCond .ne 11, []), (11, 3, .new 152, []), (14, 1, .dup, []), (15, 3, .invokespecial 154, []), (18, 1, .athrow, []), (19, 1, .aload_n 0, []), (20, 3, .getfield 37, []), (23, 3, .getfield 172, []), (26, 1, .iload_n 1, []), (27, 3, .invokevirtual 321, [1]), (30, 1, .ireturn, [])]
theorem zw_1306 : (Jvm.Cond.methodLink RX12 321 yX1_balance) ∈ lw_g := lw_t6 rfl (List.mem_of_getElem? (i := 12) rfl)
set_option maxRecDepth 100000 in
set_option maxHeartbeats 4000000 in
theorem kt_X12_stands (l : Launch) (hlt : l.stackTraces = false) (D : va_G) (k : Nat → ClassId) (B0 : Nat) (ad : Nat → Nat) (al sw : Nat) : zt_Con l yX12_stands (zw yX12_stands cX12_stands 2 (some .int)) ({ frames := 6, cells := 1, slots := 6, locals := 109 }) D k (zTx B0 ad al sw) zGT 37 zm_X12_stands := by
  have hEx := zEx_ok B0 ad al sw
  refine zt_mk (cc := cX12_stands) (nL := 2) (Ms := [zm_X10_hasMan, zm_X1_balance]) (fg := [(37, 10, 3, .inl (0, 0)), (172, 8, 3, .inl (0, 0))]) (fp := []) (ins := zn_X12_stands) (fuel := 3000) hlt rfl rfl 11 (by decide +kernel) (by decide +kernel) (by decide +kernel) (by decide +kernel) (Nat.le_of_ble_eq_true rfl) (Nat.le_of_ble_eq_true rfl) rfl rfl B0 ad al sw (by decide +kernel) (by decide +kernel) (by decide +kernel) (by decide +kernel) ?_
  intro p e s m args below meth c Q Sg w0 A θ0 S hK hE hAB hA hone hsing
  refine ⟨?_, ?_, ?_⟩
  · exact zf_ac ((fun H locs ws a q0 fs v rest pc ls hP he hv hdg kk => va_get (D := D) (ci := 10) (C := RX12) (T := TX12) (N := 18) (own := RX12) S.1 S.2.1 S.2.2.2.2 (zg_in inW_X12) S.2.2.2.1 hK hP q0 he rfl 3 (by decide) (S.2.2.2.2 (.fieldLink RX12 37 "RungMoney" "town" "LRungMoney$Town;") (List.mem_cons_of_mem _ zw_402)) (fun _ h9 => h9) hv hdg kk)) (zf_ac ((fun H locs ws a q0 fs v rest pc ls hP he hv hdg kk => va_get (D := D) (ci := 8) (C := RX10) (T := TX10) (N := 9) (own := RX12) S.1 S.2.1 S.2.2.2.2 (zg_in inW_X10) S.2.2.2.1 hK hP q0 he rfl 3 (by decide) (S.2.2.2.2 (.fieldLink RX12 172 "RungMoney$Town" "debts" "LRungMoney$Debts;") (List.mem_cons_of_mem _ zw_272)) (fun _ h9 => h9) hv hdg kk)) zf_an)
  · exact zf_an
  · exact zf_crl (xs := [(.invokevirtual 162, 3, 0), (.invokevirtual 321, 3, 1)]) (by decide +kernel) (zf_ac (zf_crV S hEx hE hAB hA hK hone hsing (kc_X10_hasMan l D k B0 ad al sw) (cwV 1 S.2.2.2.2 (zg_V zw_653 zw_654 zw_655 zw_99 zw_656) rfl rfl rfl (by decide +kernel) ⟨(Nat.le_of_ble_eq_true rfl), (Nat.le_of_ble_eq_true rfl)⟩) ⟨(Nat.le_of_ble_eq_true rfl), (Nat.le_of_ble_eq_true rfl)⟩ 8 rfl rfl (ar := [.inl ([(0, 1)], 0)]) rfl rfl (by decide +kernel)) (zf_ac (zf_crV S hEx hE hAB hA hK hone hsing (kc_X1_balance l D k B0 ad al sw) (cwV 1 S.2.2.2.2 (zg_V zw_1306 zw_872 zw_873 zw_101 zw_874) rfl rfl rfl (by decide +kernel) ⟨(Nat.le_of_ble_eq_true rfl), (Nat.le_of_ble_eq_true rfl)⟩) ⟨(Nat.le_of_ble_eq_true rfl), (Nat.le_of_ble_eq_true rfl)⟩ 0 rfl rfl (ar := [.inl ([(0, 1)], 0)]) rfl rfl (by decide +kernel)) zf_an))
